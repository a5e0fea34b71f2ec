theorem hd_X7_isSign_s : yX7_isSign.cls ≠ "java/lang/invoke/MethodHandle" ∧ yX7_isSign.cls ≠ "java/lang/invoke/VarHandle" ∧ (parseMethodDescriptor yX7_isSign.desc).map (fun d => d.parameters.length) = some 1 := by decide +kernel
theorem fi_X7_write_X7 : ∀ w ∈ wsX70, w ∈ wsX7_write := by decide +kernel
theorem fi_X7_write_X5 : ∀ w ∈ wsX50, w ∈ wsX7_write := by decide +kernel
theorem hd_X0_record : yX0_record.cls = RX0 ∧ yX0_record.cls ≠ "java/lang/invoke/MethodHandle" ∧ yX0_record.cls ≠ "java/lang/invoke/VarHandle" ∧ (parseMethodDescriptor yX0_record.desc).map (fun d => d.parameters.length) = some 1 := by decide +kernel
set_option maxHeartbeats 4000000 in
set_option maxRecDepth 100000 in
theorem c_X7_write (l : Launch) (G : GX) (ad : Nat → Nat) (S : XS) (hok : okX S) (c0 : Nat) (hc0 : c0 < 65536) : CtI l yX7_write wsX7_write { frames := 3, cells := 0, slots := 0, locals := 76 } G (wX G ad) (S) [.ref (ad 34), .int (nI (c0))] (fun r S' => (isSgn c0 = false ∧ r = -2 ∧ S' = S) ∨ (isSgn c0 = true ∧ ¬ st_len (x_now S) < 120 ∧ r = -3 ∧ S' = S) ∨ (isSgn c0 = true ∧ st_len (x_now S) < 120 ∧ r = nI (st_len (x_now S) + 1) ∧ S' = u_now (recF S) (va_up (st_text (x_now S)) (st_len (x_now S)) c0, st_len (x_now S) + 1, st_pats (x_now S), st_pcnt (x_now S), st_most (x_now S)))) 0 0 := by
  refine CtI.of (cc := cX7_write) (maxL := 2) (ret := some .int) (by decide +kernel) rfl (Nat.le_of_ble_eq_true rfl) ?_
  intro p e s m args below meth c ls A hC hr hlk hin hK hA hX hl
  have hl : lv_has ls 2 [(0, .ref (ad 34)), (1, .int (nI (c0)))] := hl
  have hokk := hok
  obtain ⟨hok1, hok2, hok3, hok4, hok5, hok6, hok7, hok8, hok9, hokA, hokB⟩ := hok
  obtain ⟨hT, hTn, hTp, hTm, hTi, hTj⟩ := hok1
  refine lv_iload_n hC.1 hC.2.1 dX7_write_0 rfl (lv_at hl 1 rfl) ?_
  refine ps_I (As := [.int (nI (c0))]) (rest := []) hC hK hA hX (c_X7_isSign l G (c0) (by omega)) (va_cwS 1 hC.2.2.2.2 gX7_write_X7_isSign rfl rfl rfl hd_X7_isSign_s ⟨Nat.le_of_ble_eq_true rfl, Nat.le_of_ble_eq_true rfl⟩) dX7_write_1 rfl hl.1 rfl (Nat.le_of_ble_eq_true rfl) ⟨(Nat.zero_le _), (Nat.zero_le _)⟩ (fun r9 S9 H locs hp9 hX => ?_)
  obtain rfl := hp9
  replace hX : HH G A s.heap (wX G ad (S)) H locs := hX
  refine b_if_ne hC (b := isSgn c0) (tgt := 10) dX7_write_4 (by decide) (fun c4 => ?_) (fun c4 => ?_)
  · skip
    refine lv_aload_n hC.1 hC.2.1 dX7_write_10 rfl (lv_at hl 0 rfl) ?_
    refine g_x_now hC fi_X7_write_X7 hK hX (wd9 hC 1 rfl) dX7_write_11 ?_
    refine gN_len (k := 0) (by decide) hC fi_X7_write_X5 hK hX (hnf hK 5 rfl) dX7_write_14 (v := st_len (x_now S)) rfl ?_
    refine lv_bipush (v := nI (120)) hC.1 hC.2.1 dX7_write_17 (by decide +kernel) ?_
    refine n_icmp_lt hC (a := st_len (x_now S)) (b := 120) (tgt := 25) dX7_write_19 (by decide) (by omega) (by decide) (fun c19 => ?_) (fun c19 => ?_)
    · skip
      refine lv_aload_n hC.1 hC.2.1 dX7_write_25 rfl (lv_at hl 0 rfl) ?_
      refine g_x_history hC fi_X7_write_X7 hK hX (wd9 hC 2 rfl) dX7_write_26 ?_
      refine lv_aload_n hC.1 hC.2.1 dX7_write_29 rfl (lv_at hl 0 rfl) ?_
      refine g_x_now hC fi_X7_write_X7 hK hX (wd9 hC 1 rfl) dX7_write_30 ?_
      refine cv_V (As := [.ref (ad 0)]) (rest := []) hC hK hA hX (c_X0_record l G ad (S) hok4 hT.1 hTi hok6) (cwV 1 hC.2.2.2.2 gX7_write_X0_record rfl rfl rfl hd_X0_record ⟨Nat.le_of_ble_eq_true rfl, Nat.le_of_ble_eq_true rfl⟩) (ci := 0) (q := (RX0, TX0, 2)) rfl (q0 := 18) rfl dX7_write_33 rfl hl.1 rfl (Nat.le_of_ble_eq_true rfl) ⟨(Nat.zero_le _), (Nat.zero_le _)⟩ (fun S9 H locs hp9 hX => ?_)
      obtain ⟨pm9, hh9, hS9, hrec9⟩ := hp9
      obtain ⟨rfl, rfl⟩ := rec_det hrec9
      rw [hS9] at hX
      replace hX : HH G A s.heap (wX G ad (u_hcnt (u_perm (u_hs (S) (va_up (x_hs S) (rcP S (rcH S)) (cpSt (x_hs S (rcP S (rcH S))) (x_now S)))) (rcP S)) (rcH S + 1))) H locs := hX
      refine lv_aload_n hC.1 hC.2.1 dX7_write_36 rfl (lv_at hl 0 rfl) ?_
      refine g_x_now hC fi_X7_write_X7 hK hX (wd9 hC 1 rfl) dX7_write_37 ?_
      refine lv_iload_n hC.1 hC.2.1 dX7_write_40 rfl (lv_at hl 1 rfl) ?_
      refine cv_V (As := [.int (nI (c0))]) (rest := []) hC hK hA hX (c_X5_append l G ad (u_hcnt (u_perm (u_hs (S) (va_up (x_hs S) (rcP S (rcH S)) (cpSt (x_hs S (rcP S (rcH S))) (x_now S)))) (rcP S)) (rcH S + 1)) (c0) (by omega) (show st_len (x_now S) < 120 from by omega)) (cwV 1 hC.2.2.2.2 gX7_write_X5_append rfl rfl rfl hd_X5_append ⟨Nat.le_of_ble_eq_true rfl, Nat.le_of_ble_eq_true rfl⟩) (ci := 5) (q := (RX5, TX5, 5)) rfl (q0 := 0) rfl dX7_write_41 rfl hl.1 rfl (Nat.le_of_ble_eq_true rfl) ⟨(Nat.zero_le _), (Nat.zero_le _)⟩ (fun S9 H locs hp9 hX => ?_)
      rw [hp9] at hX
      replace hX : HH G A s.heap (wX G ad (u_hcnt (u_perm (u_hs (u_now S (va_up (st_text (x_now S)) (st_len (x_now S)) (c0), st_len (x_now S) + 1, st_pats (x_now S), st_pcnt (x_now S), st_most (x_now S))) (va_up (x_hs S) (rcP S (rcH S)) (cpSt (x_hs S (rcP S (rcH S))) (x_now S)))) (rcP S)) (rcH S + 1))) H locs := hX
      refine lv_aload_n hC.1 hC.2.1 dX7_write_44 rfl (lv_at hl 0 rfl) ?_
      refine g_x_now hC fi_X7_write_X7 hK hX (wd9 hC 1 rfl) dX7_write_45 ?_
      refine gN_len (k := 0) (by decide) hC fi_X7_write_X5 hK hX (hnf hK 5 rfl) dX7_write_48 (v := st_len (x_now S) + 1) rfl ?_
      refine r_ireturn hC hr hlk hX dX7_write_51 ?_
      exact Or.inr (Or.inr ⟨by assumption, by omega, rfl, rfl⟩)
    · skip
      refine lv_bipush (v := (-3)) hC.1 hC.2.1 dX7_write_22 (by decide +kernel) ?_
      refine r_ireturn hC hr hlk hX dX7_write_24 ?_
      exact Or.inr (Or.inl ⟨by assumption, by omega, rfl, rfl⟩)
  · skip
    refine lv_bipush (v := (-2)) hC.1 hC.2.1 dX7_write_7 (by decide +kernel) ?_
    refine r_ireturn hC hr hlk hX dX7_write_9 ?_
    exact Or.inl ⟨by assumption, rfl, rfl⟩
theorem fi_X7_cut_X7 : ∀ w ∈ wsX70, w ∈ wsX7_cut := by decide +kernel
theorem fi_X7_cut_X5 : ∀ w ∈ wsX50, w ∈ wsX7_cut := by decide +kernel
set_option maxHeartbeats 4000000 in
set_option maxRecDepth 100000 in
theorem c_X7_cut (l : Launch) (G : GX) (ad : Nat → Nat) (S : XS) (hok : okX S) (k0 : Int32) : CtI l yX7_cut wsX7_cut { frames := 3, cells := 0, slots := 0, locals := 76 } G (wX G ad) (S) [.ref (ad 34), .int (k0)] (fun r S' => ((k0 < 1 ∨ nI 120 < k0) ∧ r = -2 ∧ S' = S) ∨ ∃ k, k0 = nI k ∧ 1 ≤ k ∧ k ≤ 120 ∧ ((st_len (x_now S) < k ∧ r = -4 ∧ S' = S) ∨ (k ≤ st_len (x_now S) ∧ r = nI (st_len (x_now S) - k) ∧ S' = u_now (recF S) (st_text (x_now S), st_len (x_now S) - k, st_pats (x_now S), st_pcnt (x_now S), st_most (x_now S))))) 0 0 := by
  refine CtI.of (cc := cX7_cut) (maxL := 2) (ret := some .int) (by decide +kernel) rfl (Nat.le_of_ble_eq_true rfl) ?_
  intro p e s m args below meth c ls A hC hr hlk hin hK hA hX hl
  have hl : lv_has ls 2 [(0, .ref (ad 34)), (1, .int (k0))] := hl
  have hokk := hok
  obtain ⟨hok1, hok2, hok3, hok4, hok5, hok6, hok7, hok8, hok9, hokA, hokB⟩ := hok
  obtain ⟨hT, hTn, hTp, hTm, hTi, hTj⟩ := hok1
  refine lv_iload_n hC.1 hC.2.1 dX7_cut_0 rfl (lv_at hl 1 rfl) ?_
  refine lv_iconst (v := nI (1)) hC.1 hC.2.1 dX7_cut_1 rfl ?_
  refine lv_icmp_lt hC.1 hC.2.1 (x := k0) (y := nI (1)) (tgt := 11) dX7_cut_2 (by decide) (fun c2 => ?_) (fun c2 => ?_)
  · skip
    refine lv_bipush (v := (-2)) hC.1 hC.2.1 dX7_cut_11 (by decide +kernel) ?_
    refine r_ireturn hC hr hlk hX dX7_cut_13 ?_
    first | exact Or.inl ⟨Or.inl c2, rfl, rfl⟩ | exact Or.inl ⟨Or.inr ((nI_ltI (by omega) (by omega)).mpr (by omega)), rfl, rfl⟩
  · skip
    obtain ⟨k0_n, hh_k0, h_k0, rfl⟩ := nI_of' (by first | decide | omega) c2
    refine lv_iload_n hC.1 hC.2.1 dX7_cut_5 rfl (lv_at hl 1 rfl) ?_
    refine lv_bipush (v := nI (120)) hC.1 hC.2.1 dX7_cut_6 (by decide +kernel) ?_
    refine n_icmp_le hC (a := k0_n) (b := 120) (tgt := 14) dX7_cut_8 (by decide) (by omega) (by decide) (fun c8 => ?_) (fun c8 => ?_)
    · skip
      refine lv_iload_n hC.1 hC.2.1 dX7_cut_14 rfl (lv_at hl 1 rfl) ?_
      refine lv_aload_n hC.1 hC.2.1 dX7_cut_15 rfl (lv_at hl 0 rfl) ?_
      refine g_x_now hC fi_X7_cut_X7 hK hX (wd9 hC 1 rfl) dX7_cut_16 ?_
      refine gN_len (k := 0) (by decide) hC fi_X7_cut_X5 hK hX (hnf hK 5 rfl) dX7_cut_19 (v := st_len (x_now S)) rfl ?_
      refine n_icmp_le hC (a := k0_n) (b := st_len (x_now S)) (tgt := 28) dX7_cut_22 (by decide) (by omega) (by omega) (fun c22 => ?_) (fun c22 => ?_)
      · skip
        refine lv_aload_n hC.1 hC.2.1 dX7_cut_28 rfl (lv_at hl 0 rfl) ?_
        refine g_x_history hC fi_X7_cut_X7 hK hX (wd9 hC 2 rfl) dX7_cut_29 ?_
        refine lv_aload_n hC.1 hC.2.1 dX7_cut_32 rfl (lv_at hl 0 rfl) ?_
        refine g_x_now hC fi_X7_cut_X7 hK hX (wd9 hC 1 rfl) dX7_cut_33 ?_
        refine cv_V (As := [.ref (ad 0)]) (rest := []) hC hK hA hX (c_X0_record l G ad (S) hok4 hT.1 hTi hok6) (cwV 1 hC.2.2.2.2 gX7_cut_X0_record rfl rfl rfl hd_X0_record ⟨Nat.le_of_ble_eq_true rfl, Nat.le_of_ble_eq_true rfl⟩) (ci := 0) (q := (RX0, TX0, 2)) rfl (q0 := 18) rfl dX7_cut_36 rfl hl.1 rfl (Nat.le_of_ble_eq_true rfl) ⟨(Nat.zero_le _), (Nat.zero_le _)⟩ (fun S9 H locs hp9 hX => ?_)
        obtain ⟨pm9, hh9, hS9, hrec9⟩ := hp9
        obtain ⟨rfl, rfl⟩ := rec_det hrec9
        rw [hS9] at hX
        replace hX : HH G A s.heap (wX G ad (u_hcnt (u_perm (u_hs (S) (va_up (x_hs S) (rcP S (rcH S)) (cpSt (x_hs S (rcP S (rcH S))) (x_now S)))) (rcP S)) (rcH S + 1))) H locs := hX
        refine lv_aload_n hC.1 hC.2.1 dX7_cut_39 rfl (lv_at hl 0 rfl) ?_
        refine g_x_now hC fi_X7_cut_X7 hK hX (wd9 hC 1 rfl) dX7_cut_40 ?_
        refine lv_dup hC.1 hC.2.1 dX7_cut_43 rfl ?_
        refine gN_len (k := 0) (by decide) hC fi_X7_cut_X5 hK hX (hnf hK 5 rfl) dX7_cut_44 (v := st_len (x_now S)) rfl ?_
        refine lv_iload_n hC.1 hC.2.1 dX7_cut_47 rfl (lv_at hl 1 rfl) ?_
        refine n_sub hC (a := st_len (x_now S)) (b := k0_n) dX7_cut_48 (by omega) ?_
        refine pN_len (k := 0) (by decide) hC fi_X7_cut_X5 hK hX (v := (st_len (x_now S)) - (k0_n)) (hnf hK 5 rfl) dX7_cut_49 (fun H locs hX => ?_)
        replace hX : HH G A s.heap (wX G ad (u_hcnt (u_perm (u_hs (u_now S (st_text (x_now S), (st_len (x_now S)) - (k0_n), st_pats (x_now S), st_pcnt (x_now S), st_most (x_now S))) (va_up (x_hs S) (rcP S (rcH S)) (cpSt (x_hs S (rcP S (rcH S))) (x_now S)))) (rcP S)) (rcH S + 1))) H locs := hX
        refine lv_aload_n hC.1 hC.2.1 dX7_cut_52 rfl (lv_at hl 0 rfl) ?_
        refine g_x_now hC fi_X7_cut_X7 hK hX (wd9 hC 1 rfl) dX7_cut_53 ?_
        refine gN_len (k := 0) (by decide) hC fi_X7_cut_X5 hK hX (hnf hK 5 rfl) dX7_cut_56 (v := (st_len (x_now S)) - (k0_n)) rfl ?_
        refine r_ireturn hC hr hlk hX dX7_cut_59 ?_
        exact Or.inr ⟨k0_n, rfl, by omega, by omega, Or.inr ⟨by omega, rfl, rfl⟩⟩
      · skip
        refine lv_bipush (v := (-4)) hC.1 hC.2.1 dX7_cut_25 (by decide +kernel) ?_
        refine r_ireturn hC hr hlk hX dX7_cut_27 ?_
        exact Or.inr ⟨k0_n, rfl, by omega, by omega, Or.inl ⟨by omega, rfl, rfl⟩⟩
    · skip
      refine lv_bipush (v := (-2)) hC.1 hC.2.1 dX7_cut_11 (by decide +kernel) ?_
      refine r_ireturn hC hr hlk hX dX7_cut_13 ?_
      first | exact Or.inl ⟨Or.inl c2, rfl, rfl⟩ | exact Or.inl ⟨Or.inr ((nI_ltI (by omega) (by omega)).mpr (by omega)), rfl, rfl⟩
theorem fi_X7_type_X7 : ∀ w ∈ wsX70, w ∈ wsX7_type := by decide +kernel
theorem fi_X7_type_X1 : ∀ w ∈ wsX10, w ∈ wsX7_type := by decide +kernel
theorem hd_X1_append : yX1_append.cls = RX1 ∧ yX1_append.cls ≠ "java/lang/invoke/MethodHandle" ∧ yX1_append.cls ≠ "java/lang/invoke/VarHandle" ∧ (parseMethodDescriptor yX1_append.desc).map (fun d => d.parameters.length) = some 1 := by decide +kernel
set_option maxHeartbeats 4000000 in
set_option maxRecDepth 100000 in
theorem c_X7_type (l : Launch) (G : GX) (ad : Nat → Nat) (S : XS) (hok : okX S) (c0 : Nat) (hc0 : c0 < 65536) : CtI l yX7_type wsX7_type { frames := 1, cells := 0, slots := 0, locals := 21 } G (wX G ad) (S) [.ref (ad 34), .int (nI (c0))] (fun r S' => (¬ x_plen S < 60 ∧ r = -3 ∧ S' = S) ∨ (x_plen S < 60 ∧ r = nI (x_plen S + 1) ∧ S' = u_plen (u_typed S (va_up (x_typed S) (x_plen S) c0)) (x_plen S + 1))) 0 0 := by
  refine CtI.of (cc := cX7_type) (maxL := 2) (ret := some .int) (by decide +kernel) rfl (Nat.le_of_ble_eq_true rfl) ?_
  intro p e s m args below meth c ls A hC hr hlk hin hK hA hX hl
  have hl : lv_has ls 2 [(0, .ref (ad 34)), (1, .int (nI (c0)))] := hl
  have hokk := hok
  obtain ⟨hok1, hok2, hok3, hok4, hok5, hok6, hok7, hok8, hok9, hokA, hokB⟩ := hok
  obtain ⟨hT, hTn, hTp, hTm, hTi, hTj⟩ := hok1
  refine lv_aload_n hC.1 hC.2.1 dX7_type_0 rfl (lv_at hl 0 rfl) ?_
  refine g_x_pad hC fi_X7_type_X7 hK hX (wd9 hC 1 rfl) dX7_type_1 ?_
  refine gN_pad_length hC fi_X7_type_X1 hK hX (hnf hK 6 rfl) dX7_type_4 (v := x_plen S) rfl ?_
  refine lv_bipush (v := nI (60)) hC.1 hC.2.1 dX7_type_7 (by decide +kernel) ?_
  refine n_icmp_lt hC (a := x_plen S) (b := 60) (tgt := 15) dX7_type_9 (by decide) (by omega) (by decide) (fun c9 => ?_) (fun c9 => ?_)
  · skip
    refine lv_aload_n hC.1 hC.2.1 dX7_type_15 rfl (lv_at hl 0 rfl) ?_
    refine g_x_pad hC fi_X7_type_X7 hK hX (wd9 hC 1 rfl) dX7_type_16 ?_
    refine lv_iload_n hC.1 hC.2.1 dX7_type_19 rfl (lv_at hl 1 rfl) ?_
    refine cv_V (As := [.int (nI (c0))]) (rest := []) hC hK hA hX (c_X1_append l G ad (S) (c0) (by omega) (by omega)) (cwV 1 hC.2.2.2.2 gX7_type_X1_append rfl rfl rfl hd_X1_append ⟨Nat.le_of_ble_eq_true rfl, Nat.le_of_ble_eq_true rfl⟩) (ci := 1) (q := (RX1, TX1, 2)) rfl (q0 := 20) rfl dX7_type_20 rfl hl.1 rfl (Nat.le_of_ble_eq_true rfl) ⟨(Nat.zero_le _), (Nat.zero_le _)⟩ (fun S9 H locs hp9 hX => ?_)
    rw [hp9] at hX
    replace hX : HH G A s.heap (wX G ad (u_plen (u_typed (S) (va_up (x_typed S) (x_plen S) (c0))) (x_plen S + 1))) H locs := hX
    refine lv_aload_n hC.1 hC.2.1 dX7_type_23 rfl (lv_at hl 0 rfl) ?_
    refine g_x_pad hC fi_X7_type_X7 hK hX (wd9 hC 1 rfl) dX7_type_24 ?_
    refine gN_pad_length hC fi_X7_type_X1 hK hX (hnf hK 6 rfl) dX7_type_27 (v := x_plen S + 1) rfl ?_
    refine r_ireturn hC hr hlk hX dX7_type_30 ?_
    exact Or.inr ⟨by omega, rfl, rfl⟩
  · skip
    refine lv_bipush (v := (-3)) hC.1 hC.2.1 dX7_type_12 (by decide +kernel) ?_
    refine r_ireturn hC hr hlk hX dX7_type_14 ?_
    exact Or.inl ⟨by omega, rfl, rfl⟩
theorem fi_X7_clearPad_X7 : ∀ w ∈ wsX70, w ∈ wsX7_clearPad := by decide +kernel
theorem fi_X7_clearPad_X1 : ∀ w ∈ wsX10, w ∈ wsX7_clearPad := by decide +kernel
set_option maxHeartbeats 4000000 in
set_option maxRecDepth 100000 in
theorem c_X7_clearPad (l : Launch) (G : GX) (ad : Nat → Nat) (S : XS)  : CtI l yX7_clearPad wsX7_clearPad { frames := 0, cells := 0, slots := 0, locals := 0 } G (wX G ad) (S) [.ref (ad 34)] (fun r S' => r = nI (x_plen S) ∧ S' = u_plen S 0) 0 0 := by
  refine CtI.of (cc := cX7_clearPad) (maxL := 2) (ret := some .int) (by decide +kernel) rfl (Nat.le_of_ble_eq_true rfl) ?_
  intro p e s m args below meth c ls A hC hr hlk hin hK hA hX hl
  have hl : lv_has ls 2 [(0, .ref (ad 34))] := hl
  refine lv_aload_n hC.1 hC.2.1 dX7_clearPad_0 rfl (lv_at hl 0 rfl) ?_
  refine g_x_pad hC fi_X7_clearPad_X7 hK hX (wd9 hC 1 rfl) dX7_clearPad_1 ?_
  refine gN_pad_length hC fi_X7_clearPad_X1 hK hX (hnf hK 6 rfl) dX7_clearPad_4 (v := x_plen S) rfl ?_
  refine lv_istore_n (lv' := [(1, .int (nI (x_plen S))), (0, .ref (ad 34))]) hC.1 hC.2.1 dX7_clearPad_7 rfl hl (by decide) rfl (fun ls hl => ?_)
  refine lv_aload_n hC.1 hC.2.1 dX7_clearPad_8 rfl (lv_at hl 1 rfl) ?_
  refine g_x_pad hC fi_X7_clearPad_X7 hK hX (wd9 hC 1 rfl) dX7_clearPad_9 ?_
  refine lv_iconst (v := nI (0)) hC.1 hC.2.1 dX7_clearPad_12 rfl ?_
  refine pN_pad_length hC fi_X7_clearPad_X1 hK hX (v := 0) (hnf hK 6 rfl) dX7_clearPad_13 (fun H locs hX => ?_)
  replace hX : HH G A s.heap (wX G ad (u_plen (S) (0))) H locs := hX
  refine lv_iload_n hC.1 hC.2.1 dX7_clearPad_16 rfl (lv_at hl 0 rfl) ?_
  refine r_ireturn hC hr hlk hX dX7_clearPad_17 ?_
  exact ⟨rfl, rfl⟩
theorem fi_X7_keep_X7 : ∀ w ∈ wsX70, w ∈ wsX7_keep := by decide +kernel
theorem fi_X7_keep_X5 : ∀ w ∈ wsX50, w ∈ wsX7_keep := by decide +kernel
set_option maxHeartbeats 4000000 in
set_option maxRecDepth 100000 in
theorem c_X7_keep (l : Launch) (G : GX) (ad : Nat → Nat) (S : XS) (hok : okX S) : CtI l yX7_keep wsX7_keep { frames := 2, cells := 0, slots := 0, locals := 54 } G (wX G ad) (S) [.ref (ad 34)] (fun r S' => r = nI (st_len (x_now S)) ∧ S' = u_hasSnap (u_snap S (cpSt (x_snap S) (x_now S))) true) 0 0 := by
  refine CtI.of (cc := cX7_keep) (maxL := 1) (ret := some .int) (by decide +kernel) rfl (Nat.le_of_ble_eq_true rfl) ?_
  intro p e s m args below meth c ls A hC hr hlk hin hK hA hX hl
  have hl : lv_has ls 1 [(0, .ref (ad 34))] := hl
  have hokk := hok
  obtain ⟨hok1, hok2, hok3, hok4, hok5, hok6, hok7, hok8, hok9, hokA, hokB⟩ := hok
  obtain ⟨hT, hTn, hTp, hTm, hTi, hTj⟩ := hok1
  refine lv_aload_n hC.1 hC.2.1 dX7_keep_0 rfl (lv_at hl 0 rfl) ?_
  refine g_x_snapshot hC fi_X7_keep_X7 hK hX (wd9 hC 1 rfl) dX7_keep_1 ?_
  refine lv_aload_n hC.1 hC.2.1 dX7_keep_4 rfl (lv_at hl 0 rfl) ?_
  refine g_x_now hC fi_X7_keep_X7 hK hX (wd9 hC 2 rfl) dX7_keep_5 ?_
  refine cv_V (As := [.ref (ad 0)]) (rest := []) hC hK hA hX (c_X5_copyFrom l G ad (S) 1 0 (by decide) (by decide) (by decide) hT.1 hTi) (cwV 1 hC.2.2.2.2 gX7_keep_X5_copyFrom rfl rfl rfl hd_X5_copyFrom ⟨Nat.le_of_ble_eq_true rfl, Nat.le_of_ble_eq_true rfl⟩) (ci := 5) (q := (RX5, TX5, 5)) rfl (q0 := 3) rfl dX7_keep_8 rfl hl.1 rfl (Nat.le_of_ble_eq_true rfl) ⟨(Nat.zero_le _), (Nat.zero_le _)⟩ (fun S9 H locs hp9 hX => ?_)
  rw [hp9] at hX
  replace hX : HH G A s.heap (wX G ad (u_snap (S) (cpSt (x_snap S) (x_now S)))) H locs := hX
  refine lv_aload_n hC.1 hC.2.1 dX7_keep_11 rfl (lv_at hl 0 rfl) ?_
  refine lv_iconst (v := nI (1)) hC.1 hC.2.1 dX7_keep_12 rfl ?_
  refine p_x_hasSnapshot hC fi_X7_keep_X7 hK hX (v := true) (wd9 hC 3 rfl) dX7_keep_13 (fun H locs hX => ?_)
  replace hX : HH G A s.heap (wX G ad (u_hasSnap (u_snap (S) (cpSt (x_snap S) (x_now S))) (true))) H locs := hX
  refine lv_aload_n hC.1 hC.2.1 dX7_keep_16 rfl (lv_at hl 0 rfl) ?_
  refine g_x_now hC fi_X7_keep_X7 hK hX (wd9 hC 2 rfl) dX7_keep_17 ?_
  refine gN_len (k := 0) (by decide) hC fi_X7_keep_X5 hK hX (hnf hK 5 rfl) dX7_keep_20 (v := st_len (x_now S)) rfl ?_
  refine r_ireturn hC hr hlk hX dX7_keep_23 ?_
  exact ⟨rfl, rfl⟩
theorem fi_X7_at_X7 : ∀ w ∈ wsX70, w ∈ wsX7_at := by decide +kernel
theorem fi_X7_at_X5 : ∀ w ∈ wsX50, w ∈ wsX7_at := by decide +kernel
set_option maxHeartbeats 4000000 in
set_option maxRecDepth 100000 in
theorem c_X7_at (l : Launch) (G : GX) (ad : Nat → Nat) (S : XS) (hok : okX S) (i0 : Int32) : CtI l yX7_at wsX7_at { frames := 1, cells := 0, slots := 0, locals := 21 } G (wX G ad) (S) [.ref (ad 34), .int (i0)] (fun r S' => S' = S ∧ (((i0 < 0 ∨ nI (st_len (x_now S)) ≤ i0) ∧ r = -1) ∨ ∃ i, i0 = nI i ∧ i < st_len (x_now S) ∧ r = nI (st_text (x_now S) i))) 0 0 := by
  refine CtI.of (cc := cX7_at) (maxL := 2) (ret := some .int) (by decide +kernel) rfl (Nat.le_of_ble_eq_true rfl) ?_
  intro p e s m args below meth c ls A hC hr hlk hin hK hA hX hl
  have hl : lv_has ls 2 [(0, .ref (ad 34)), (1, .int (i0))] := hl
  have hokk := hok
  obtain ⟨hok1, hok2, hok3, hok4, hok5, hok6, hok7, hok8, hok9, hokA, hokB⟩ := hok
  obtain ⟨hT, hTn, hTp, hTm, hTi, hTj⟩ := hok1
  refine lv_iload_n hC.1 hC.2.1 dX7_at_0 rfl (lv_at hl 1 rfl) ?_
  refine lv_if_lt hC.1 hC.2.1 (x := i0) (tgt := 15) dX7_at_1 (by decide) (fun c1 => ?_) (fun c1 => ?_)
  · skip
    refine lv_iconst (v := (-1)) hC.1 hC.2.1 dX7_at_15 rfl ?_
    refine r_ireturn hC hr hlk hX dX7_at_16 ?_
    first | exact ⟨rfl, Or.inl ⟨Or.inl c1, rfl⟩⟩ | exact ⟨rfl, Or.inl ⟨Or.inr (nI_le (by omega) (by omega)), rfl⟩⟩
  · skip
    obtain ⟨i0_n, h_i0, rfl⟩ := nI_of c1
    refine lv_iload_n hC.1 hC.2.1 dX7_at_4 rfl (lv_at hl 1 rfl) ?_
    refine lv_aload_n hC.1 hC.2.1 dX7_at_5 rfl (lv_at hl 0 rfl) ?_
    refine g_x_now hC fi_X7_at_X7 hK hX (wd9 hC 1 rfl) dX7_at_6 ?_
    refine gN_len (k := 0) (by decide) hC fi_X7_at_X5 hK hX (hnf hK 5 rfl) dX7_at_9 (v := st_len (x_now S)) rfl ?_
    refine n_icmp_lt hC (a := i0_n) (b := st_len (x_now S)) (tgt := 17) dX7_at_12 (by decide) (by omega) (by omega) (fun c12 => ?_) (fun c12 => ?_)
    · skip
      refine lv_aload_n hC.1 hC.2.1 dX7_at_17 rfl (lv_at hl 0 rfl) ?_
      refine g_x_now hC fi_X7_at_X7 hK hX (wd9 hC 1 rfl) dX7_at_18 ?_
      refine lv_iload_n hC.1 hC.2.1 dX7_at_21 rfl (lv_at hl 1 rfl) ?_
      refine cv_I (As := [.int (nI (i0_n))]) (rest := []) hC hK hA hX (c_X5_signAt l G ad (S) (i0_n) (by omega) (hT.1 _)) (cwV 1 hC.2.2.2.2 gX7_at_X5_signAt rfl rfl rfl hd_X5_signAt ⟨Nat.le_of_ble_eq_true rfl, Nat.le_of_ble_eq_true rfl⟩) (ci := 5) (q := (RX5, TX5, 5)) rfl (q0 := 0) rfl dX7_at_22 rfl hl.1 rfl (Nat.le_of_ble_eq_true rfl) ⟨(Nat.zero_le _), (Nat.zero_le _)⟩ (fun r9 S9 H locs hp9 hX => ?_)
      obtain ⟨rfl, hS9⟩ := hp9
      rw [hS9] at hX
      replace hX : HH G A s.heap (wX G ad (S)) H locs := hX
      refine r_ireturn hC hr hlk hX dX7_at_25 ?_
      exact ⟨rfl, Or.inr ⟨i0_n, rfl, by omega, rfl⟩⟩
    · skip
      refine lv_iconst (v := (-1)) hC.1 hC.2.1 dX7_at_15 rfl ?_
      refine r_ireturn hC hr hlk hX dX7_at_16 ?_
      first | exact ⟨rfl, Or.inl ⟨Or.inl c1, rfl⟩⟩ | exact ⟨rfl, Or.inl ⟨Or.inr (nI_le (by omega) (by omega)), rfl⟩⟩
theorem fi_X7_setSlips_X7 : ∀ w ∈ wsX70, w ∈ wsX7_setSlips := by decide +kernel
theorem fi_X7_setSlips_X5 : ∀ w ∈ wsX50, w ∈ wsX7_setSlips := by decide +kernel
set_option maxHeartbeats 4000000 in
set_option maxRecDepth 100000 in
theorem c_X7_setSlips (l : Launch) (G : GX) (ad : Nat → Nat) (S : XS) (hok : okX S) (k0 : Int32) : CtI l yX7_setSlips wsX7_setSlips { frames := 3, cells := 0, slots := 0, locals := 76 } G (wX G ad) (S) [.ref (ad 34), .int (k0)] (fun r S' => ((k0 < 0 ∨ nI 4 < k0) ∧ r = -2 ∧ S' = S) ∨ ∃ k, k0 = nI k ∧ k ≤ 4 ∧ ((k = st_most (x_now S) ∧ r = -5 ∧ S' = S) ∨ (k ≠ st_most (x_now S) ∧ r = nI (st_most (x_now S)) ∧ S' = u_now (recF S) (st_text (x_now S), st_len (x_now S), st_pats (x_now S), st_pcnt (x_now S), k)))) 0 0 := by
  refine CtI.of (cc := cX7_setSlips) (maxL := 3) (ret := some .int) (by decide +kernel) rfl (Nat.le_of_ble_eq_true rfl) ?_
  intro p e s m args below meth c ls A hC hr hlk hin hK hA hX hl
  have hl : lv_has ls 3 [(0, .ref (ad 34)), (1, .int (k0))] := hl
  have hokk := hok
  obtain ⟨hok1, hok2, hok3, hok4, hok5, hok6, hok7, hok8, hok9, hokA, hokB⟩ := hok
  obtain ⟨hT, hTn, hTp, hTm, hTi, hTj⟩ := hok1
  refine lv_iload_n hC.1 hC.2.1 dX7_setSlips_0 rfl (lv_at hl 1 rfl) ?_
  refine lv_if_lt hC.1 hC.2.1 (x := k0) (tgt := 9) dX7_setSlips_1 (by decide) (fun c1 => ?_) (fun c1 => ?_)
  · skip
    refine lv_bipush (v := (-2)) hC.1 hC.2.1 dX7_setSlips_9 (by decide +kernel) ?_
    refine r_ireturn hC hr hlk hX dX7_setSlips_11 ?_
    first | exact Or.inl ⟨Or.inl c1, rfl, rfl⟩ | exact Or.inl ⟨Or.inr ((nI_ltI (by omega) (by omega)).mpr (by omega)), rfl, rfl⟩
  · skip
    obtain ⟨k0_n, h_k0, rfl⟩ := nI_of c1
    refine lv_iload_n hC.1 hC.2.1 dX7_setSlips_4 rfl (lv_at hl 1 rfl) ?_
    refine lv_iconst (v := nI (4)) hC.1 hC.2.1 dX7_setSlips_5 rfl ?_
    refine n_icmp_le hC (a := k0_n) (b := 4) (tgt := 12) dX7_setSlips_6 (by decide) (by omega) (by decide) (fun c6 => ?_) (fun c6 => ?_)
    · skip
      refine lv_aload_n hC.1 hC.2.1 dX7_setSlips_12 rfl (lv_at hl 0 rfl) ?_
      refine g_x_now hC fi_X7_setSlips_X7 hK hX (wd9 hC 1 rfl) dX7_setSlips_13 ?_
      refine gN_most (k := 0) (by decide) hC fi_X7_setSlips_X5 hK hX (hnf hK 1 rfl) dX7_setSlips_16 (v := st_most (x_now S)) rfl ?_
      refine lv_istore_n (lv' := [(2, .int (nI (st_most (x_now S)))), (0, .ref (ad 34)), (1, .int (nI (k0_n)))]) hC.1 hC.2.1 dX7_setSlips_19 rfl hl (by decide) rfl (fun ls hl => ?_)
      refine lv_iload_n hC.1 hC.2.1 dX7_setSlips_20 rfl (lv_at hl 2 rfl) ?_
      refine lv_iload_n hC.1 hC.2.1 dX7_setSlips_21 rfl (lv_at hl 0 rfl) ?_
      refine n_icmp_ne hC (a := k0_n) (b := st_most (x_now S)) (tgt := 28) dX7_setSlips_22 (by decide) (by omega) (by omega) (fun c22 => ?_) (fun c22 => ?_)
      · skip
        refine lv_aload_n hC.1 hC.2.1 dX7_setSlips_28 rfl (lv_at hl 1 rfl) ?_
        refine g_x_history hC fi_X7_setSlips_X7 hK hX (wd9 hC 2 rfl) dX7_setSlips_29 ?_
        refine lv_aload_n hC.1 hC.2.1 dX7_setSlips_32 rfl (lv_at hl 1 rfl) ?_
        refine g_x_now hC fi_X7_setSlips_X7 hK hX (wd9 hC 1 rfl) dX7_setSlips_33 ?_
        refine cv_V (As := [.ref (ad 0)]) (rest := []) hC hK hA hX (c_X0_record l G ad (S) hok4 hT.1 hTi hok6) (cwV 1 hC.2.2.2.2 gX7_setSlips_X0_record rfl rfl rfl hd_X0_record ⟨Nat.le_of_ble_eq_true rfl, Nat.le_of_ble_eq_true rfl⟩) (ci := 0) (q := (RX0, TX0, 2)) rfl (q0 := 18) rfl dX7_setSlips_36 rfl hl.1 rfl (Nat.le_of_ble_eq_true rfl) ⟨(Nat.zero_le _), (Nat.zero_le _)⟩ (fun S9 H locs hp9 hX => ?_)
        obtain ⟨pm9, hh9, hS9, hrec9⟩ := hp9
        obtain ⟨rfl, rfl⟩ := rec_det hrec9
        rw [hS9] at hX
        replace hX : HH G A s.heap (wX G ad (u_hcnt (u_perm (u_hs (S) (va_up (x_hs S) (rcP S (rcH S)) (cpSt (x_hs S (rcP S (rcH S))) (x_now S)))) (rcP S)) (rcH S + 1))) H locs := hX
        refine lv_aload_n hC.1 hC.2.1 dX7_setSlips_39 rfl (lv_at hl 1 rfl) ?_
        refine g_x_now hC fi_X7_setSlips_X7 hK hX (wd9 hC 1 rfl) dX7_setSlips_40 ?_
        refine lv_iload_n hC.1 hC.2.1 dX7_setSlips_43 rfl (lv_at hl 2 rfl) ?_
        refine pN_most (k := 0) (by decide) hC fi_X7_setSlips_X5 hK hX (v := k0_n) (hnf hK 1 rfl) dX7_setSlips_44 (fun H locs hX => ?_)
        replace hX : HH G A s.heap (wX G ad (u_hcnt (u_perm (u_hs (u_now S (st_text (x_now S), st_len (x_now S), st_pats (x_now S), st_pcnt (x_now S), k0_n)) (va_up (x_hs S) (rcP S (rcH S)) (cpSt (x_hs S (rcP S (rcH S))) (x_now S)))) (rcP S)) (rcH S + 1))) H locs := hX
        refine lv_iload_n hC.1 hC.2.1 dX7_setSlips_47 rfl (lv_at hl 0 rfl) ?_
        refine r_ireturn hC hr hlk hX dX7_setSlips_48 ?_
        exact Or.inr ⟨k0_n, rfl, by omega, Or.inr ⟨by omega, rfl, rfl⟩⟩
      · skip
        refine lv_bipush (v := (-5)) hC.1 hC.2.1 dX7_setSlips_25 (by decide +kernel) ?_
        refine r_ireturn hC hr hlk hX dX7_setSlips_27 ?_
        exact Or.inr ⟨k0_n, rfl, by omega, Or.inl ⟨by omega, rfl, rfl⟩⟩
    · skip
      refine lv_bipush (v := (-2)) hC.1 hC.2.1 dX7_setSlips_9 (by decide +kernel) ?_
      refine r_ireturn hC hr hlk hX dX7_setSlips_11 ?_
      first | exact Or.inl ⟨Or.inl c1, rfl, rfl⟩ | exact Or.inl ⟨Or.inr ((nI_ltI (by omega) (by omega)).mpr (by omega)), rfl, rfl⟩
theorem fi_X7_undo_X7 : ∀ w ∈ wsX70, w ∈ wsX7_undo := by decide +kernel
theorem fi_X7_undo_X0 : ∀ w ∈ wsX00, w ∈ wsX7_undo := by decide +kernel
theorem hd_X0_takeLatestInto : yX0_takeLatestInto.cls = RX0 ∧ yX0_takeLatestInto.cls ≠ "java/lang/invoke/MethodHandle" ∧ yX0_takeLatestInto.cls ≠ "java/lang/invoke/VarHandle" ∧ (parseMethodDescriptor yX0_takeLatestInto.desc).map (fun d => d.parameters.length) = some 1 := by decide +kernel
set_option maxHeartbeats 4000000 in
set_option maxRecDepth 100000 in
theorem c_X7_undo (l : Launch) (G : GX) (ad : Nat → Nat) (S : XS) (hok : okX S) : CtI l yX7_undo wsX7_undo { frames := 3, cells := 0, slots := 0, locals := 76 } G (wX G ad) (S) [.ref (ad 34)] (fun r S' => (x_hcnt S = 0 ∧ r = -5 ∧ S' = S) ∨ (0 < x_hcnt S ∧ r = nI (x_hcnt S - 1) ∧ S' = u_hcnt (u_now S (cpSt (x_now S) (x_hs S (x_perm S (x_hcnt S - 1))))) (x_hcnt S - 1))) 0 0 := by
  refine CtI.of (cc := cX7_undo) (maxL := 1) (ret := some .int) (by decide +kernel) rfl (Nat.le_of_ble_eq_true rfl) ?_
  intro p e s m args below meth c ls A hC hr hlk hin hK hA hX hl
  have hl : lv_has ls 1 [(0, .ref (ad 34))] := hl
  have hokk := hok
  obtain ⟨hok1, hok2, hok3, hok4, hok5, hok6, hok7, hok8, hok9, hokA, hokB⟩ := hok
  obtain ⟨hT, hTn, hTp, hTm, hTi, hTj⟩ := hok1
  refine lv_aload_n hC.1 hC.2.1 dX7_undo_0 rfl (lv_at hl 0 rfl) ?_
  refine g_x_history hC fi_X7_undo_X7 hK hX (wd9 hC 1 rfl) dX7_undo_1 ?_
  refine gN_hist_count hC fi_X7_undo_X0 hK hX (hnf hK 2 rfl) dX7_undo_4 (v := x_hcnt S) rfl ?_
  refine n_if_ne hC (a := x_hcnt S) (tgt := 13) dX7_undo_7 (by decide) (by omega) (fun c7 => ?_) (fun c7 => ?_)
  · skip
    refine lv_aload_n hC.1 hC.2.1 dX7_undo_13 rfl (lv_at hl 0 rfl) ?_
    refine g_x_history hC fi_X7_undo_X7 hK hX (wd9 hC 1 rfl) dX7_undo_14 ?_
    refine lv_aload_n hC.1 hC.2.1 dX7_undo_17 rfl (lv_at hl 0 rfl) ?_
    refine g_x_now hC fi_X7_undo_X7 hK hX (wd9 hC 2 rfl) dX7_undo_18 ?_
    refine cv_V (As := [.ref (ad 0)]) (rest := []) hC hK hA hX (c_X0_takeLatestInto l G ad (S) hok4 ⟨by omega, hok6⟩ (hok3 _ (by omega)).1.1 (hok3 _ (by omega)).2.2.2.2.1) (cwV 1 hC.2.2.2.2 gX7_undo_X0_takeLatestInto rfl rfl rfl hd_X0_takeLatestInto ⟨Nat.le_of_ble_eq_true rfl, Nat.le_of_ble_eq_true rfl⟩) (ci := 0) (q := (RX0, TX0, 2)) rfl (q0 := 18) rfl dX7_undo_21 rfl hl.1 rfl (Nat.le_of_ble_eq_true rfl) ⟨(Nat.zero_le _), (Nat.zero_le _)⟩ (fun S9 H locs hp9 hX => ?_)
    rw [hp9] at hX
    replace hX : HH G A s.heap (wX G ad (u_hcnt (u_now (S) (cpSt (x_now S) (x_hs S (x_perm S (x_hcnt S - 1))))) (x_hcnt S - 1))) H locs := hX
    refine lv_aload_n hC.1 hC.2.1 dX7_undo_24 rfl (lv_at hl 0 rfl) ?_
    refine g_x_history hC fi_X7_undo_X7 hK hX (wd9 hC 1 rfl) dX7_undo_25 ?_
    refine gN_hist_count hC fi_X7_undo_X0 hK hX (hnf hK 2 rfl) dX7_undo_28 (v := x_hcnt S - 1) rfl ?_
    refine r_ireturn hC hr hlk hX dX7_undo_31 ?_
    exact Or.inr ⟨by omega, rfl, rfl⟩
  · skip
    refine lv_bipush (v := (-5)) hC.1 hC.2.1 dX7_undo_10 (by decide +kernel) ?_
    refine r_ireturn hC hr hlk hX dX7_undo_12 ?_
    exact Or.inl ⟨by omega, rfl, rfl⟩
theorem fi_X7_restore_X7 : ∀ w ∈ wsX70, w ∈ wsX7_restore := by decide +kernel
theorem fi_X7_restore_X5 : ∀ w ∈ wsX50, w ∈ wsX7_restore := by decide +kernel
set_option maxHeartbeats 4000000 in
set_option maxRecDepth 100000 in
theorem c_X7_restore (l : Launch) (G : GX) (ad : Nat → Nat) (S : XS) (hok : okX S) : CtI l yX7_restore wsX7_restore { frames := 3, cells := 0, slots := 0, locals := 76 } G (wX G ad) (S) [.ref (ad 34)] (fun r S' => (x_hasSnap S = false ∧ r = -5 ∧ S' = S) ∨ (x_hasSnap S = true ∧ r = nI (st_len (x_snap S)) ∧ S' = u_now (recF S) (cpSt (x_now S) (x_snap S)))) 0 0 := by
  refine CtI.of (cc := cX7_restore) (maxL := 1) (ret := some .int) (by decide +kernel) rfl (Nat.le_of_ble_eq_true rfl) ?_
  intro p e s m args below meth c ls A hC hr hlk hin hK hA hX hl
  have hl : lv_has ls 1 [(0, .ref (ad 34))] := hl
  have hokk := hok
  obtain ⟨hok1, hok2, hok3, hok4, hok5, hok6, hok7, hok8, hok9, hokA, hokB⟩ := hok
  obtain ⟨hT, hTn, hTp, hTm, hTi, hTj⟩ := hok1
  refine lv_aload_n hC.1 hC.2.1 dX7_restore_0 rfl (lv_at hl 0 rfl) ?_
  refine g_x_hasSnapshot hC fi_X7_restore_X7 hK hX (wd9 hC 1 rfl) dX7_restore_1 (v := x_hasSnap S) rfl ?_
  refine b_if_ne hC (b := x_hasSnap S) (tgt := 10) dX7_restore_4 (by decide) (fun c4 => ?_) (fun c4 => ?_)
  · skip
    refine lv_aload_n hC.1 hC.2.1 dX7_restore_10 rfl (lv_at hl 0 rfl) ?_
    refine g_x_history hC fi_X7_restore_X7 hK hX (wd9 hC 2 rfl) dX7_restore_11 ?_
    refine lv_aload_n hC.1 hC.2.1 dX7_restore_14 rfl (lv_at hl 0 rfl) ?_
    refine g_x_now hC fi_X7_restore_X7 hK hX (wd9 hC 3 rfl) dX7_restore_15 ?_
    refine cv_V (As := [.ref (ad 0)]) (rest := []) hC hK hA hX (c_X0_record l G ad (S) hok4 hT.1 hTi hok6) (cwV 1 hC.2.2.2.2 gX7_restore_X0_record rfl rfl rfl hd_X0_record ⟨Nat.le_of_ble_eq_true rfl, Nat.le_of_ble_eq_true rfl⟩) (ci := 0) (q := (RX0, TX0, 2)) rfl (q0 := 18) rfl dX7_restore_18 rfl hl.1 rfl (Nat.le_of_ble_eq_true rfl) ⟨(Nat.zero_le _), (Nat.zero_le _)⟩ (fun S9 H locs hp9 hX => ?_)
    obtain ⟨pm9, hh9, hS9, hrec9⟩ := hp9
    obtain ⟨rfl, rfl⟩ := rec_det hrec9
    rw [hS9] at hX
    replace hX : HH G A s.heap (wX G ad (u_hcnt (u_perm (u_hs (S) (va_up (x_hs S) (rcP S (rcH S)) (cpSt (x_hs S (rcP S (rcH S))) (x_now S)))) (rcP S)) (rcH S + 1))) H locs := hX
    refine lv_aload_n hC.1 hC.2.1 dX7_restore_21 rfl (lv_at hl 0 rfl) ?_
    refine g_x_now hC fi_X7_restore_X7 hK hX (wd9 hC 3 rfl) dX7_restore_22 ?_
    refine lv_aload_n hC.1 hC.2.1 dX7_restore_25 rfl (lv_at hl 0 rfl) ?_
    refine g_x_snapshot hC fi_X7_restore_X7 hK hX (wd9 hC 4 rfl) dX7_restore_26 ?_
    refine cv_V (As := [.ref (ad 3)]) (rest := []) hC hK hA hX (c_X5_copyFrom l G ad (u_hcnt (u_perm (u_hs (S) (va_up (x_hs S) (rcP S (rcH S)) (cpSt (x_hs S (rcP S (rcH S))) (x_now S)))) (rcP S)) (rcH S + 1)) 0 1 (by decide) (by decide) (by decide) (hok2 (by assumption)).1.1 (hok2 (by assumption)).2.2.2.2.1) (cwV 1 hC.2.2.2.2 gX7_restore_X5_copyFrom rfl rfl rfl hd_X5_copyFrom ⟨Nat.le_of_ble_eq_true rfl, Nat.le_of_ble_eq_true rfl⟩) (ci := 5) (q := (RX5, TX5, 5)) rfl (q0 := 0) rfl dX7_restore_29 rfl hl.1 rfl (Nat.le_of_ble_eq_true rfl) ⟨(Nat.zero_le _), (Nat.zero_le _)⟩ (fun S9 H locs hp9 hX => ?_)
    rw [hp9] at hX
    replace hX : HH G A s.heap (wX G ad (u_hcnt (u_perm (u_hs (u_now (S) (cpSt (x_now S) (x_snap S))) (va_up (x_hs S) (rcP S (rcH S)) (cpSt (x_hs S (rcP S (rcH S))) (x_now S)))) (rcP S)) (rcH S + 1))) H locs := hX
    refine lv_aload_n hC.1 hC.2.1 dX7_restore_32 rfl (lv_at hl 0 rfl) ?_
    refine g_x_now hC fi_X7_restore_X7 hK hX (wd9 hC 3 rfl) dX7_restore_33 ?_
    refine gN_len (k := 0) (by decide) hC fi_X7_restore_X5 hK hX (hnf hK 5 rfl) dX7_restore_36 (v := st_len (cpSt (x_now S) (x_snap S))) rfl ?_
    refine r_ireturn hC hr hlk hX dX7_restore_39 ?_
    exact Or.inr ⟨by assumption, rfl, rfl⟩
  · skip
    refine lv_bipush (v := (-5)) hC.1 hC.2.1 dX7_restore_7 (by decide +kernel) ?_
    refine r_ireturn hC hr hlk hX dX7_restore_9 ?_
    exact Or.inl ⟨by assumption, rfl, rfl⟩
theorem fi_X7_takes_X7 : ∀ w ∈ wsX70, w ∈ wsX7_takes := by decide +kernel
theorem hd_X5_patternOrNull : yX5_patternOrNull.cls = RX5 ∧ yX5_patternOrNull.cls ≠ "java/lang/invoke/MethodHandle" ∧ yX5_patternOrNull.cls ≠ "java/lang/invoke/VarHandle" ∧ (parseMethodDescriptor yX5_patternOrNull.desc).map (fun d => d.parameters.length) = some 1 := by decide +kernel
theorem fi_X7_takes_X2 : ∀ w ∈ wsX20, w ∈ wsX7_takes := by decide +kernel
set_option maxHeartbeats 4000000 in
set_option maxRecDepth 100000 in
theorem c_X7_takes (l : Launch) (G : GX) (ad : Nat → Nat) (S : XS) (hok : okX S) (p0 : Int32) (i0 : Int32) : CtI l yX7_takes wsX7_takes { frames := 1, cells := 0, slots := 0, locals := 21 } G (wX G ad) (S) [.ref (ad 34), .int (p0), .int (i0)] (fun r S' => S' = S ∧ (((noP S p0 ∨ ∃ q, hasP S p0 q ∧ (i0 < 0 ∨ nI (pd_cnt q) ≤ i0)) ∧ r = -1) ∨ ∃ q i, hasP S p0 q ∧ i0 = nI i ∧ i < pd_cnt q ∧ r = nI (pd_plf q i))) 0 0 := by
  refine CtI.of (cc := cX7_takes) (maxL := 4) (ret := some .int) (by decide +kernel) rfl (Nat.le_of_ble_eq_true rfl) ?_
  intro p e s m args below meth c ls A hC hr hlk hin hK hA hX hl
  have hl : lv_has ls 4 [(0, .ref (ad 34)), (1, .int (p0)), (2, .int (i0))] := hl
  have hokk := hok
  obtain ⟨hok1, hok2, hok3, hok4, hok5, hok6, hok7, hok8, hok9, hokA, hokB⟩ := hok
  obtain ⟨hT, hTn, hTp, hTm, hTi, hTj⟩ := hok1
  refine lv_aload_n hC.1 hC.2.1 dX7_takes_0 rfl (lv_at hl 0 rfl) ?_
  refine g_x_now hC fi_X7_takes_X7 hK hX (wd9 hC 1 rfl) dX7_takes_1 ?_
  refine lv_iload_n hC.1 hC.2.1 dX7_takes_4 rfl (lv_at hl 1 rfl) ?_
  refine cv_Q (As := [.int (p0)]) (rest := []) hC hK hA hX (c_X5_patternOrNull l G ad (S) (p0) hTp) (cwV 1 hC.2.2.2.2 gX7_takes_X5_patternOrNull rfl rfl rfl hd_X5_patternOrNull ⟨Nat.le_of_ble_eq_true rfl, Nat.le_of_ble_eq_true rfl⟩) (ci := 5) (q := (RX5, TX5, 5)) rfl (q0 := 0) rfl dX7_takes_5 rfl hl.1 rfl (Nat.le_of_ble_eq_true rfl) ⟨(Nat.zero_le _), (Nat.zero_le _)⟩ (fun r9 S9 H locs hp9 hX => ?_)
  obtain ⟨hr9, hS9⟩ := hp9
  rw [hS9] at hX
  replace hr9 : ((∃ j, p0 = nI j ∧ j < st_pcnt (x_now S) ∧ r9 = st_pats (x_now S) j) ∨ ((p0 < 0 ∨ nI (st_pcnt (x_now S)) ≤ p0) ∧ r9 = none)) := hr9
  replace hX : HH G A s.heap (wX G ad (S)) H locs := hX
  rcases hr9 with ⟨jp9, hjp9, hjc9, hr9⟩ | ⟨hn9, hr9⟩
  · obtain ⟨q0, jq0, hq_q0, hpa9⟩ := hTj jp9 hjc9
    obtain rfl : r9 = some (pd_a q0) := hr9.trans hpa9
    have hP0 : hasP S p0 q0 := ⟨jp9, hjp9, hjc9, hpa9, jq0, hq_q0⟩
    obtain ⟨hm1, hm0, hb0, hpt0⟩ := hokB q0 jq0 hq_q0
    refine lv_astore_n (lv' := [(3, .ref (pd_a q0)), (0, .ref (ad 34)), (1, .int (p0)), (2, .int (i0))]) hC.1 hC.2.1 dX7_takes_8 rfl hl (by decide) rfl (fun ls hl => ?_)
    refine lv_aload_n hC.1 hC.2.1 dX7_takes_9 rfl (lv_at hl 0 rfl) ?_
    refine lv_ifnull hC.1 hC.2.1 dX7_takes_10 ?_
    refine lv_iload_n hC.1 hC.2.1 dX7_takes_13 rfl (lv_at hl 3 rfl) ?_
    refine lv_if_lt hC.1 hC.2.1 (x := i0) (tgt := 25) dX7_takes_14 (by decide) (fun c14 => ?_) (fun c14 => ?_)
    · skip
      refine lv_iconst (v := (-1)) hC.1 hC.2.1 dX7_takes_25 rfl ?_
      refine r_ireturn hC hr hlk hX dX7_takes_26 ?_
      first | exact ⟨rfl, Or.inl ⟨Or.inl hP0, rfl⟩⟩ | exact ⟨rfl, Or.inl ⟨Or.inr ⟨q0, hP0, Or.inl c14⟩, rfl⟩⟩ | exact ⟨rfl, Or.inl ⟨Or.inr ⟨q0, hP0, Or.inr (nI_le (by omega) (by omega))⟩, rfl⟩⟩
    · skip
      obtain ⟨i0_n, h_i0, rfl⟩ := nI_of c14
      refine lv_iload_n hC.1 hC.2.1 dX7_takes_17 rfl (lv_at hl 3 rfl) ?_
      refine lv_aload_n hC.1 hC.2.1 dX7_takes_18 rfl (lv_at hl 0 rfl) ?_
      refine gN_pat_placeCount hC fi_X7_takes_X2 hK hX hq_q0 (hnf hK 3 rfl) dX7_takes_19 (v := pd_cnt q0) rfl ?_
      refine n_icmp_lt hC (a := i0_n) (b := pd_cnt q0) (tgt := 27) dX7_takes_22 (by decide) (by omega) (by omega) (fun c22 => ?_) (fun c22 => ?_)
      · skip
        refine lv_aload_n hC.1 hC.2.1 dX7_takes_27 rfl (lv_at hl 0 rfl) ?_
        refine lv_iload_n hC.1 hC.2.1 dX7_takes_28 rfl (lv_at hl 3 rfl) ?_
        refine cv_I (As := [.int (nI (i0_n))]) (rest := []) hC hK hA hX (c_X2_signsOf l G ad (S) q0 _ hq_q0 (i0_n) (by omega)) (cwV 1 hC.2.2.2.2 gX7_takes_X2_signsOf rfl rfl rfl hd_X2_signsOf ⟨Nat.le_of_ble_eq_true rfl, Nat.le_of_ble_eq_true rfl⟩) (ci := 2) (q := (RX2, TX2, 4)) rfl (wX_pa hq_q0) dX7_takes_29 rfl hl.1 rfl (Nat.le_of_ble_eq_true rfl) ⟨(Nat.zero_le _), (Nat.zero_le _)⟩ (fun r9 S9 H locs hp9 hX => ?_)
        obtain ⟨rfl, hS9⟩ := hp9
        rw [hS9] at hX
        replace hX : HH G A s.heap (wX G ad (S)) H locs := hX
        refine r_ireturn hC hr hlk hX dX7_takes_32 ?_
        exact ⟨rfl, Or.inr ⟨q0, i0_n, hP0, rfl, by omega, rfl⟩⟩
      · skip
        refine lv_iconst (v := (-1)) hC.1 hC.2.1 dX7_takes_25 rfl ?_
        refine r_ireturn hC hr hlk hX dX7_takes_26 ?_
        first | exact ⟨rfl, Or.inl ⟨Or.inl hP0, rfl⟩⟩ | exact ⟨rfl, Or.inl ⟨Or.inr ⟨q0, hP0, Or.inl c14⟩, rfl⟩⟩ | exact ⟨rfl, Or.inl ⟨Or.inr ⟨q0, hP0, Or.inr (nI_le (by omega) (by omega))⟩, rfl⟩⟩
  · obtain rfl : r9 = none := hr9
    have hP0 : noP S p0 := hn9
    refine lv_astore_nN (lv' := [(3, .null), (0, .ref (ad 34)), (1, .int (p0)), (2, .int (i0))]) hC.1 hC.2.1 dX7_takes_8 rfl hl (by decide) rfl (fun ls hl => ?_)
    refine lv_aload_nN hC.1 hC.2.1 dX7_takes_9 rfl (lv_at hl 0 rfl) ?_
    refine lv_ifnullN (tgt := 25) hC.1 hC.2.1 dX7_takes_10 (by decide) ?_
    refine lv_iconst (v := (-1)) hC.1 hC.2.1 dX7_takes_25 rfl ?_
    refine r_ireturn hC hr hlk hX dX7_takes_26 ?_
    first | exact ⟨rfl, Or.inl ⟨Or.inl hP0, rfl⟩⟩ | exact ⟨rfl, Or.inl ⟨Or.inr ⟨q0, hP0, Or.inl c14⟩, rfl⟩⟩ | exact ⟨rfl, Or.inl ⟨Or.inr ⟨q0, hP0, Or.inr (nI_le (by omega) (by omega))⟩, rfl⟩⟩
theorem fi_X7_removePattern_X7 : ∀ w ∈ wsX70, w ∈ wsX7_removePattern := by decide +kernel
theorem hd_X5_removeNumber : yX5_removeNumber.cls = RX5 ∧ yX5_removeNumber.cls ≠ "java/lang/invoke/MethodHandle" ∧ yX5_removeNumber.cls ≠ "java/lang/invoke/VarHandle" ∧ (parseMethodDescriptor yX5_removeNumber.desc).map (fun d => d.parameters.length) = some 1 := by decide +kernel
theorem fi_X7_removePattern_X5 : ∀ w ∈ wsX50, w ∈ wsX7_removePattern := by decide +kernel
set_option maxHeartbeats 4000000 in
set_option maxRecDepth 100000 in
theorem c_X7_removePattern (l : Launch) (G : GX) (ad : Nat → Nat) (S : XS) (hok : okX S) (p0 : Int32) : CtI l yX7_removePattern wsX7_removePattern { frames := 3, cells := 0, slots := 0, locals := 76 } G (wX G ad) (S) [.ref (ad 34), .int (p0)] (fun r S' => (noP S p0 ∧ r = -1 ∧ S' = S) ∨ ∃ j, p0 = nI j ∧ j < st_pcnt (x_now S) ∧ r = nI (st_pcnt (x_now S) - 1) ∧ S' = u_now (recF S) (st_text (x_now S), st_len (x_now S), va_up (remP (st_pats (x_now S)) j 5) 5 none, st_pcnt (x_now S) - 1, st_most (x_now S))) 0 0 := by
  refine CtI.of (cc := cX7_removePattern) (maxL := 2) (ret := some .int) (by decide +kernel) rfl (Nat.le_of_ble_eq_true rfl) ?_
  intro p e s m args below meth c ls A hC hr hlk hin hK hA hX hl
  have hl : lv_has ls 2 [(0, .ref (ad 34)), (1, .int (p0))] := hl
  have hokk := hok
  obtain ⟨hok1, hok2, hok3, hok4, hok5, hok6, hok7, hok8, hok9, hokA, hokB⟩ := hok
  obtain ⟨hT, hTn, hTp, hTm, hTi, hTj⟩ := hok1
  refine lv_aload_n hC.1 hC.2.1 dX7_removePattern_0 rfl (lv_at hl 0 rfl) ?_
  refine g_x_now hC fi_X7_removePattern_X7 hK hX (wd9 hC 1 rfl) dX7_removePattern_1 ?_
  refine lv_iload_n hC.1 hC.2.1 dX7_removePattern_4 rfl (lv_at hl 1 rfl) ?_
  refine cv_Q (As := [.int (p0)]) (rest := []) hC hK hA hX (c_X5_patternOrNull l G ad (S) (p0) hTp) (cwV 1 hC.2.2.2.2 gX7_removePattern_X5_patternOrNull rfl rfl rfl hd_X5_patternOrNull ⟨Nat.le_of_ble_eq_true rfl, Nat.le_of_ble_eq_true rfl⟩) (ci := 5) (q := (RX5, TX5, 5)) rfl (q0 := 0) rfl dX7_removePattern_5 rfl hl.1 rfl (Nat.le_of_ble_eq_true rfl) ⟨(Nat.zero_le _), (Nat.zero_le _)⟩ (fun r9 S9 H locs hp9 hX => ?_)
  obtain ⟨hr9, hS9⟩ := hp9
  rw [hS9] at hX
  replace hr9 : ((∃ j, p0 = nI j ∧ j < st_pcnt (x_now S) ∧ r9 = st_pats (x_now S) j) ∨ ((p0 < 0 ∨ nI (st_pcnt (x_now S)) ≤ p0) ∧ r9 = none)) := hr9
  replace hX : HH G A s.heap (wX G ad (S)) H locs := hX
  rcases hr9 with ⟨jp9, hjp9, hjc9, hr9⟩ | ⟨hn9, hr9⟩
  · obtain ⟨q0, jq0, hq_q0, hpa9⟩ := hTj jp9 hjc9
    obtain rfl : r9 = some (pd_a q0) := hr9.trans hpa9
    have hP0 : hasP S p0 q0 := ⟨jp9, hjp9, hjc9, hpa9, jq0, hq_q0⟩
    obtain ⟨hm1, hm0, hb0, hpt0⟩ := hokB q0 jq0 hq_q0
    subst hjp9
    refine lv_ifnonnull (tgt := 13) hC.1 hC.2.1 dX7_removePattern_8 (by decide) ?_
    refine lv_aload_n hC.1 hC.2.1 dX7_removePattern_13 rfl (lv_at hl 0 rfl) ?_
    refine g_x_history hC fi_X7_removePattern_X7 hK hX (wd9 hC 2 rfl) dX7_removePattern_14 ?_
    refine lv_aload_n hC.1 hC.2.1 dX7_removePattern_17 rfl (lv_at hl 0 rfl) ?_
    refine g_x_now hC fi_X7_removePattern_X7 hK hX (wd9 hC 1 rfl) dX7_removePattern_18 ?_
    refine cv_V (As := [.ref (ad 0)]) (rest := []) hC hK hA hX (c_X0_record l G ad (S) hok4 hT.1 hTi hok6) (cwV 1 hC.2.2.2.2 gX7_removePattern_X0_record rfl rfl rfl hd_X0_record ⟨Nat.le_of_ble_eq_true rfl, Nat.le_of_ble_eq_true rfl⟩) (ci := 0) (q := (RX0, TX0, 2)) rfl (q0 := 18) rfl dX7_removePattern_21 rfl hl.1 rfl (Nat.le_of_ble_eq_true rfl) ⟨(Nat.zero_le _), (Nat.zero_le _)⟩ (fun S9 H locs hp9 hX => ?_)
    obtain ⟨pm9, hh9, hS9, hrec9⟩ := hp9
    obtain ⟨rfl, rfl⟩ := rec_det hrec9
    rw [hS9] at hX
    replace hX : HH G A s.heap (wX G ad (u_hcnt (u_perm (u_hs (S) (va_up (x_hs S) (rcP S (rcH S)) (cpSt (x_hs S (rcP S (rcH S))) (x_now S)))) (rcP S)) (rcH S + 1))) H locs := hX
    refine lv_aload_n hC.1 hC.2.1 dX7_removePattern_24 rfl (lv_at hl 0 rfl) ?_
    refine g_x_now hC fi_X7_removePattern_X7 hK hX (wd9 hC 1 rfl) dX7_removePattern_25 ?_
    refine lv_iload_n hC.1 hC.2.1 dX7_removePattern_28 rfl (lv_at hl 1 rfl) ?_
    refine cv_V (As := [.int (nI (jp9))]) (rest := []) hC hK hA hX (c_X5_removeNumber l G ad (u_hcnt (u_perm (u_hs (S) (va_up (x_hs S) (rcP S (rcH S)) (cpSt (x_hs S (rcP S (rcH S))) (x_now S)))) (rcP S)) (rcH S + 1)) (jp9) hjc9 hTp hTi) (cwV 1 hC.2.2.2.2 gX7_removePattern_X5_removeNumber rfl rfl rfl hd_X5_removeNumber ⟨Nat.le_of_ble_eq_true rfl, Nat.le_of_ble_eq_true rfl⟩) (ci := 5) (q := (RX5, TX5, 5)) rfl (q0 := 0) rfl dX7_removePattern_29 rfl hl.1 rfl (Nat.le_of_ble_eq_true rfl) ⟨(Nat.zero_le _), (Nat.zero_le _)⟩ (fun S9 H locs hp9 hX => ?_)
    rw [hp9] at hX
    replace hX : HH G A s.heap (wX G ad (u_hcnt (u_perm (u_hs (u_now S (st_text (x_now S), st_len (x_now S), va_up (remP (st_pats (x_now S)) jp9 5) 5 none, st_pcnt (x_now S) - 1, st_most (x_now S))) (va_up (x_hs S) (rcP S (rcH S)) (cpSt (x_hs S (rcP S (rcH S))) (x_now S)))) (rcP S)) (rcH S + 1))) H locs := hX
    refine lv_aload_n hC.1 hC.2.1 dX7_removePattern_32 rfl (lv_at hl 0 rfl) ?_
    refine g_x_now hC fi_X7_removePattern_X7 hK hX (wd9 hC 1 rfl) dX7_removePattern_33 ?_
    refine gN_pcnt (k := 0) (by decide) hC fi_X7_removePattern_X5 hK hX (hnf hK 0 rfl) dX7_removePattern_36 (v := st_pcnt (x_now S) - 1) rfl ?_
    refine r_ireturn hC hr hlk hX dX7_removePattern_39 ?_
    exact Or.inr ⟨jp9, rfl, hjc9, rfl, rfl⟩
  · obtain rfl : r9 = none := hr9
    have hP0 : noP S p0 := hn9
    refine lv_ifnonnullN hC.1 hC.2.1 dX7_removePattern_8 ?_
    refine lv_iconst (v := (-1)) hC.1 hC.2.1 dX7_removePattern_11 rfl ?_
    refine r_ireturn hC hr hlk hX dX7_removePattern_12 ?_
    exact Or.inl ⟨hP0, rfl, rfl⟩
theorem fi_X7_slips_X7 : ∀ w ∈ wsX70, w ∈ wsX7_slips := by decide +kernel
theorem fi_X7_slips_X5 : ∀ w ∈ wsX50, w ∈ wsX7_slips := by decide +kernel
theorem hd_X6_countSlips : yX6_countSlips.cls = RX6 ∧ yX6_countSlips.cls ≠ "java/lang/invoke/MethodHandle" ∧ yX6_countSlips.cls ≠ "java/lang/invoke/VarHandle" ∧ (parseMethodDescriptor yX6_countSlips.desc).map (fun d => d.parameters.length) = some 5 := by decide +kernel
set_option maxHeartbeats 4000000 in
set_option maxRecDepth 100000 in
theorem c_X7_slips (l : Launch) (G : GX) (ad : Nat → Nat) (S : XS) (hok : okX S) (p0 : Int32) (fr0 to0 w0 : Int32) : CtI l yX7_slips wsX7_slips { frames := 3, cells := 0, slots := 0, locals := 80 } G (wX G ad) (S) [.ref (ad 34), .int (p0), .int (fr0), .int (to0), .int (w0)] (fun r S' => (noP S p0 ∧ r = -1 ∧ S' = S) ∨ ∃ q, hasP S p0 q ∧ (((fr0 < 0 ∨ to0 < fr0 ∨ nI (st_len (x_now S)) < to0 ∨ w0 < 0 ∨ nI 3 < w0) ∧ r = -2 ∧ S' = S) ∨ ∃ fr to w f, fr0 = nI fr ∧ to0 = nI to ∧ w0 = nI w ∧ fr ≤ to ∧ to ≤ st_len (x_now S) ∧ w ≤ 3 ∧ r = nI (wayV (wcol (tkX (pd_ptf q) (st_text (x_now S))) fr (to - fr) (pd_cnt q)) w) ∧ S' = u_ways S f)) 0 0 := by
  refine CtI.of (cc := cX7_slips) (maxL := 6) (ret := some .int) (by decide +kernel) rfl (Nat.le_of_ble_eq_true rfl) ?_
  intro p e s m args below meth c ls A hC hr hlk hin hK hA hX hl
  have hl : lv_has ls 6 [(0, .ref (ad 34)), (1, .int (p0)), (2, .int (fr0)), (3, .int (to0)), (4, .int (w0))] := hl
  have hokk := hok
  obtain ⟨hok1, hok2, hok3, hok4, hok5, hok6, hok7, hok8, hok9, hokA, hokB⟩ := hok
  obtain ⟨hT, hTn, hTp, hTm, hTi, hTj⟩ := hok1
  refine lv_aload_n hC.1 hC.2.1 dX7_slips_0 rfl (lv_at hl 0 rfl) ?_
  refine g_x_now hC fi_X7_slips_X7 hK hX (wd9 hC 1 rfl) dX7_slips_1 ?_
  refine lv_iload_n hC.1 hC.2.1 dX7_slips_4 rfl (lv_at hl 1 rfl) ?_
  refine cv_Q (As := [.int (p0)]) (rest := []) hC hK hA hX (c_X5_patternOrNull l G ad (S) (p0) hTp) (cwV 1 hC.2.2.2.2 gX7_slips_X5_patternOrNull rfl rfl rfl hd_X5_patternOrNull ⟨Nat.le_of_ble_eq_true rfl, Nat.le_of_ble_eq_true rfl⟩) (ci := 5) (q := (RX5, TX5, 5)) rfl (q0 := 0) rfl dX7_slips_5 rfl hl.1 rfl (Nat.le_of_ble_eq_true rfl) ⟨(Nat.zero_le _), (Nat.zero_le _)⟩ (fun r9 S9 H locs hp9 hX => ?_)
  obtain ⟨hr9, hS9⟩ := hp9
  rw [hS9] at hX
  replace hr9 : ((∃ j, p0 = nI j ∧ j < st_pcnt (x_now S) ∧ r9 = st_pats (x_now S) j) ∨ ((p0 < 0 ∨ nI (st_pcnt (x_now S)) ≤ p0) ∧ r9 = none)) := hr9
  replace hX : HH G A s.heap (wX G ad (S)) H locs := hX
  rcases hr9 with ⟨jp9, hjp9, hjc9, hr9⟩ | ⟨hn9, hr9⟩
  · obtain ⟨q0, jq0, hq_q0, hpa9⟩ := hTj jp9 hjc9
    obtain rfl : r9 = some (pd_a q0) := hr9.trans hpa9
    have hP0 : hasP S p0 q0 := ⟨jp9, hjp9, hjc9, hpa9, jq0, hq_q0⟩
    obtain ⟨hm1, hm0, hb0, hpt0⟩ := hokB q0 jq0 hq_q0
    refine lv_astore (lv' := [(5, .ref (pd_a q0)), (0, .ref (ad 34)), (1, .int (p0)), (2, .int (fr0)), (3, .int (to0)), (4, .int (w0))]) hC.1 hC.2.1 dX7_slips_8 hl (by decide) rfl (fun ls hl => ?_)
    refine lv_aload hC.1 hC.2.1 dX7_slips_10 (lv_at hl 0 rfl) ?_
    refine lv_ifnonnull (tgt := 17) hC.1 hC.2.1 dX7_slips_12 (by decide) ?_
    refine lv_iload_n hC.1 hC.2.1 dX7_slips_17 rfl (lv_at hl 3 rfl) ?_
    refine lv_if_lt hC.1 hC.2.1 (x := fr0) (tgt := 48) dX7_slips_18 (by decide) (fun c18 => ?_) (fun c18 => ?_)
    · skip
      refine lv_bipush (v := (-2)) hC.1 hC.2.1 dX7_slips_48 (by decide +kernel) ?_
      refine r_ireturn hC hr hlk hX dX7_slips_50 ?_
      first | exact Or.inr ⟨q0, hP0, Or.inl ⟨Or.inl c18, rfl, rfl⟩⟩ | exact Or.inr ⟨q0, hP0, Or.inl ⟨Or.inr (Or.inl c23), rfl, rfl⟩⟩ | exact Or.inr ⟨q0, hP0, Or.inl ⟨Or.inr (Or.inr (Or.inl ((nI_ltI (by omega) (by omega)).mpr (by omega)))), rfl, rfl⟩⟩ | exact Or.inr ⟨q0, hP0, Or.inl ⟨Or.inr (Or.inr (Or.inr (Or.inl c39))), rfl, rfl⟩⟩ | exact Or.inr ⟨q0, hP0, Or.inl ⟨Or.inr (Or.inr (Or.inr (Or.inr ((nI_ltI (by omega) (by omega)).mpr (by omega))))), rfl, rfl⟩⟩
    · skip
      obtain ⟨fr0_n, h_fr0, rfl⟩ := nI_of c18
      refine lv_iload_n hC.1 hC.2.1 dX7_slips_21 rfl (lv_at hl 4 rfl) ?_
      refine lv_iload_n hC.1 hC.2.1 dX7_slips_22 rfl (lv_at hl 3 rfl) ?_
      refine lv_icmp_lt hC.1 hC.2.1 (x := to0) (y := nI (fr0_n)) (tgt := 48) dX7_slips_23 (by decide) (fun c23 => ?_) (fun c23 => ?_)
      · skip
        refine lv_bipush (v := (-2)) hC.1 hC.2.1 dX7_slips_48 (by decide +kernel) ?_
        refine r_ireturn hC hr hlk hX dX7_slips_50 ?_
        first | exact Or.inr ⟨q0, hP0, Or.inl ⟨Or.inl c18, rfl, rfl⟩⟩ | exact Or.inr ⟨q0, hP0, Or.inl ⟨Or.inr (Or.inl c23), rfl, rfl⟩⟩ | exact Or.inr ⟨q0, hP0, Or.inl ⟨Or.inr (Or.inr (Or.inl ((nI_ltI (by omega) (by omega)).mpr (by omega)))), rfl, rfl⟩⟩ | exact Or.inr ⟨q0, hP0, Or.inl ⟨Or.inr (Or.inr (Or.inr (Or.inl c39))), rfl, rfl⟩⟩ | exact Or.inr ⟨q0, hP0, Or.inl ⟨Or.inr (Or.inr (Or.inr (Or.inr ((nI_ltI (by omega) (by omega)).mpr (by omega))))), rfl, rfl⟩⟩
      · skip
        obtain ⟨to0_n, hh_to0, h_to0, rfl⟩ := nI_of' (by first | decide | omega) c23
        refine lv_iload_n hC.1 hC.2.1 dX7_slips_26 rfl (lv_at hl 4 rfl) ?_
        refine lv_aload_n hC.1 hC.2.1 dX7_slips_27 rfl (lv_at hl 1 rfl) ?_
        refine g_x_now hC fi_X7_slips_X7 hK hX (wd9 hC 1 rfl) dX7_slips_28 ?_
        refine gN_len (k := 0) (by decide) hC fi_X7_slips_X5 hK hX (hnf hK 5 rfl) dX7_slips_31 (v := st_len (x_now S)) rfl ?_
        refine n_icmp_gt hC (a := to0_n) (b := st_len (x_now S)) (tgt := 48) dX7_slips_34 (by decide) (by omega) (by omega) (fun c34 => ?_) (fun c34 => ?_)
        · skip
          refine lv_bipush (v := (-2)) hC.1 hC.2.1 dX7_slips_48 (by decide +kernel) ?_
          refine r_ireturn hC hr hlk hX dX7_slips_50 ?_
          first | exact Or.inr ⟨q0, hP0, Or.inl ⟨Or.inl c18, rfl, rfl⟩⟩ | exact Or.inr ⟨q0, hP0, Or.inl ⟨Or.inr (Or.inl c23), rfl, rfl⟩⟩ | exact Or.inr ⟨q0, hP0, Or.inl ⟨Or.inr (Or.inr (Or.inl ((nI_ltI (by omega) (by omega)).mpr (by omega)))), rfl, rfl⟩⟩ | exact Or.inr ⟨q0, hP0, Or.inl ⟨Or.inr (Or.inr (Or.inr (Or.inl c39))), rfl, rfl⟩⟩ | exact Or.inr ⟨q0, hP0, Or.inl ⟨Or.inr (Or.inr (Or.inr (Or.inr ((nI_ltI (by omega) (by omega)).mpr (by omega))))), rfl, rfl⟩⟩
        · skip
          refine lv_iload hC.1 hC.2.1 dX7_slips_37 (lv_at hl 5 rfl) ?_
          refine lv_if_lt hC.1 hC.2.1 (x := w0) (tgt := 48) dX7_slips_39 (by decide) (fun c39 => ?_) (fun c39 => ?_)
          · skip
            refine lv_bipush (v := (-2)) hC.1 hC.2.1 dX7_slips_48 (by decide +kernel) ?_
            refine r_ireturn hC hr hlk hX dX7_slips_50 ?_
            first | exact Or.inr ⟨q0, hP0, Or.inl ⟨Or.inl c18, rfl, rfl⟩⟩ | exact Or.inr ⟨q0, hP0, Or.inl ⟨Or.inr (Or.inl c23), rfl, rfl⟩⟩ | exact Or.inr ⟨q0, hP0, Or.inl ⟨Or.inr (Or.inr (Or.inl ((nI_ltI (by omega) (by omega)).mpr (by omega)))), rfl, rfl⟩⟩ | exact Or.inr ⟨q0, hP0, Or.inl ⟨Or.inr (Or.inr (Or.inr (Or.inl c39))), rfl, rfl⟩⟩ | exact Or.inr ⟨q0, hP0, Or.inl ⟨Or.inr (Or.inr (Or.inr (Or.inr ((nI_ltI (by omega) (by omega)).mpr (by omega))))), rfl, rfl⟩⟩
          · skip
            obtain ⟨w0_n, h_w0, rfl⟩ := nI_of c39
            refine lv_iload hC.1 hC.2.1 dX7_slips_42 (lv_at hl 5 rfl) ?_
            refine lv_iconst (v := nI (3)) hC.1 hC.2.1 dX7_slips_44 rfl ?_
            refine n_icmp_le hC (a := w0_n) (b := 3) (tgt := 51) dX7_slips_45 (by decide) (by omega) (by decide) (fun c45 => ?_) (fun c45 => ?_)
            · skip
              refine lv_aload_n hC.1 hC.2.1 dX7_slips_51 rfl (lv_at hl 1 rfl) ?_
              refine g_x_way hC fi_X7_slips_X7 hK hX (wd9 hC 2 rfl) dX7_slips_52 ?_
              refine lv_aload_n hC.1 hC.2.1 dX7_slips_55 rfl (lv_at hl 1 rfl) ?_
              refine g_x_now hC fi_X7_slips_X7 hK hX (wd9 hC 1 rfl) dX7_slips_56 ?_
              refine lv_aload hC.1 hC.2.1 dX7_slips_59 (lv_at hl 0 rfl) ?_
              refine lv_iload_n hC.1 hC.2.1 dX7_slips_61 rfl (lv_at hl 3 rfl) ?_
              refine lv_iload_n hC.1 hC.2.1 dX7_slips_62 rfl (lv_at hl 4 rfl) ?_
              refine lv_iload hC.1 hC.2.1 dX7_slips_63 (lv_at hl 5 rfl) ?_
              refine cv_I (As := [.ref (ad 0), .ref (pd_a q0), .int (nI (fr0_n)), .int (nI (to0_n)), .int (nI (w0_n))]) (rest := []) hC hK hA hX (c_X6_countSlips l G ad (S) q0 _ hq_q0 hm0 hT hTn fr0_n to0_n w0_n (by omega) (by omega) (by omega)) (cwV 5 hC.2.2.2.2 gX7_slips_X6_countSlips rfl rfl rfl hd_X6_countSlips ⟨Nat.le_of_ble_eq_true rfl, Nat.le_of_ble_eq_true rfl⟩) (ci := 6) (q := (RX6, TX6, 1)) rfl (q0 := 32) rfl dX7_slips_65 rfl hl.1 rfl (Nat.le_of_ble_eq_true rfl) ⟨(Nat.zero_le _), (Nat.zero_le _)⟩ (fun r9 S9 H locs hp9 hX => ?_)
              obtain ⟨wf65, hS9, rfl⟩ := hp9
              rw [hS9] at hX
              replace hX : HH G A s.heap (wX G ad (u_ways (S) (wf65))) H locs := hX
              refine r_ireturn hC hr hlk hX dX7_slips_68 ?_
              exact Or.inr ⟨q0, hP0, Or.inr ⟨fr0_n, to0_n, w0_n, _, rfl, rfl, rfl, by omega, by omega, by omega, rfl, rfl⟩⟩
            · skip
              refine lv_bipush (v := (-2)) hC.1 hC.2.1 dX7_slips_48 (by decide +kernel) ?_
              refine r_ireturn hC hr hlk hX dX7_slips_50 ?_
              first | exact Or.inr ⟨q0, hP0, Or.inl ⟨Or.inl c18, rfl, rfl⟩⟩ | exact Or.inr ⟨q0, hP0, Or.inl ⟨Or.inr (Or.inl c23), rfl, rfl⟩⟩ | exact Or.inr ⟨q0, hP0, Or.inl ⟨Or.inr (Or.inr (Or.inl ((nI_ltI (by omega) (by omega)).mpr (by omega)))), rfl, rfl⟩⟩ | exact Or.inr ⟨q0, hP0, Or.inl ⟨Or.inr (Or.inr (Or.inr (Or.inl c39))), rfl, rfl⟩⟩ | exact Or.inr ⟨q0, hP0, Or.inl ⟨Or.inr (Or.inr (Or.inr (Or.inr ((nI_ltI (by omega) (by omega)).mpr (by omega))))), rfl, rfl⟩⟩
  · obtain rfl : r9 = none := hr9
    have hP0 : noP S p0 := hn9
    refine lv_astoreN (lv' := [(5, .null), (0, .ref (ad 34)), (1, .int (p0)), (2, .int (fr0)), (3, .int (to0)), (4, .int (w0))]) hC.1 hC.2.1 dX7_slips_8 hl (by decide) rfl (fun ls hl => ?_)
    refine lv_aloadN hC.1 hC.2.1 dX7_slips_10 (lv_at hl 0 rfl) ?_
    refine lv_ifnonnullN hC.1 hC.2.1 dX7_slips_12 ?_
    refine lv_iconst (v := (-1)) hC.1 hC.2.1 dX7_slips_15 rfl ?_
    refine r_ireturn hC hr hlk hX dX7_slips_16 ?_
    exact Or.inl ⟨hP0, rfl, rfl⟩
theorem fi_X7_column_X7 : ∀ w ∈ wsX70, w ∈ wsX7_column := by decide +kernel
theorem fi_X7_column_X5 : ∀ w ∈ wsX50, w ∈ wsX7_column := by decide +kernel
theorem hd_X4_columnAt : yX4_columnAt.cls = RX4 ∧ yX4_columnAt.cls ≠ "java/lang/invoke/MethodHandle" ∧ yX4_columnAt.cls ≠ "java/lang/invoke/VarHandle" ∧ (parseMethodDescriptor yX4_columnAt.desc).map (fun d => d.parameters.length) = some 4 := by decide +kernel
set_option maxHeartbeats 4000000 in
set_option maxRecDepth 100000 in
theorem c_X7_column (l : Launch) (G : GX) (ad : Nat → Nat) (S : XS) (hok : okX S) (p0 : Int32) (k0 e0 : Int32) : CtL l yX7_column wsX7_column { frames := 4, cells := 0, slots := 0, locals := 110 } G (wX G ad) (S) [.ref (ad 34), .int (p0), .int (k0), .int (e0)] (fun r S' => (noP S p0 ∧ r = -1 ∧ S' = S) ∨ ∃ q, hasP S p0 q ∧ (((k0 < 0 ∨ nI (st_most (x_now S)) < k0 ∨ e0 < 0 ∨ nI (st_len (x_now S)) < e0) ∧ r = -2 ∧ S' = S) ∨ ∃ k e f, k0 = nI k ∧ e0 = nI e ∧ k ≤ st_most (x_now S) ∧ e ≤ st_len (x_now S) ∧ S' = u_cols S f ∧ ∀ b, b < 64 → lbit r b = decide (b + 1 ≤ pd_cnt q ∧ dcol (tkX (pd_ptf q) (st_text (x_now S))) (mayB (pd_bnd q) (st_text (x_now S))) e (b + 1) ≤ k))) 0 0 := by
  refine CtL.of (cc := cX7_column) (maxL := 5) (ret := some .long) (by decide +kernel) rfl (Nat.le_of_ble_eq_true rfl) ?_
  intro p e s m args below meth c ls A hC hr hlk hin hK hA hX hl
  have hl : lv_has ls 5 [(0, .ref (ad 34)), (1, .int (p0)), (2, .int (k0)), (3, .int (e0))] := hl
  have hokk := hok
  obtain ⟨hok1, hok2, hok3, hok4, hok5, hok6, hok7, hok8, hok9, hokA, hokB⟩ := hok
  obtain ⟨hT, hTn, hTp, hTm, hTi, hTj⟩ := hok1
  refine lv_aload_n hC.1 hC.2.1 dX7_column_0 rfl (lv_at hl 0 rfl) ?_
  refine g_x_now hC fi_X7_column_X7 hK hX (wd9 hC 1 rfl) dX7_column_1 ?_
  refine lv_iload_n hC.1 hC.2.1 dX7_column_4 rfl (lv_at hl 1 rfl) ?_
  refine cv_Q (As := [.int (p0)]) (rest := []) hC hK hA hX (c_X5_patternOrNull l G ad (S) (p0) hTp) (cwV 1 hC.2.2.2.2 gX7_column_X5_patternOrNull rfl rfl rfl hd_X5_patternOrNull ⟨Nat.le_of_ble_eq_true rfl, Nat.le_of_ble_eq_true rfl⟩) (ci := 5) (q := (RX5, TX5, 5)) rfl (q0 := 0) rfl dX7_column_5 rfl hl.1 rfl (Nat.le_of_ble_eq_true rfl) ⟨(Nat.zero_le _), (Nat.zero_le _)⟩ (fun r9 S9 H locs hp9 hX => ?_)
  obtain ⟨hr9, hS9⟩ := hp9
  rw [hS9] at hX
  replace hr9 : ((∃ j, p0 = nI j ∧ j < st_pcnt (x_now S) ∧ r9 = st_pats (x_now S) j) ∨ ((p0 < 0 ∨ nI (st_pcnt (x_now S)) ≤ p0) ∧ r9 = none)) := hr9
  replace hX : HH G A s.heap (wX G ad (S)) H locs := hX
  rcases hr9 with ⟨jp9, hjp9, hjc9, hr9⟩ | ⟨hn9, hr9⟩
  · obtain ⟨q0, jq0, hq_q0, hpa9⟩ := hTj jp9 hjc9
    obtain rfl : r9 = some (pd_a q0) := hr9.trans hpa9
    have hP0 : hasP S p0 q0 := ⟨jp9, hjp9, hjc9, hpa9, jq0, hq_q0⟩
    obtain ⟨hm1, hm0, hb0, hpt0⟩ := hokB q0 jq0 hq_q0
    refine lv_astore (lv' := [(4, .ref (pd_a q0)), (0, .ref (ad 34)), (1, .int (p0)), (2, .int (k0)), (3, .int (e0))]) hC.1 hC.2.1 dX7_column_8 hl (by decide) rfl (fun ls hl => ?_)
    refine lv_aload hC.1 hC.2.1 dX7_column_10 (lv_at hl 0 rfl) ?_
    refine lv_ifnonnull (tgt := 19) hC.1 hC.2.1 dX7_column_12 (by decide) ?_
    refine lv_iload_n hC.1 hC.2.1 dX7_column_19 rfl (lv_at hl 3 rfl) ?_
    refine lv_if_lt hC.1 hC.2.1 (x := k0) (tgt := 49) dX7_column_20 (by decide) (fun c20 => ?_) (fun c20 => ?_)
    · skip
      refine lv_ldc2 (v := (-2 : Int64)) hC.1 hC.2.1 hC.2.2.2.1 (wd9 hC 3 rfl) dX7_column_49 ?_
      refine r_lreturn hC hr hlk hX dX7_column_52 ?_
      first | exact Or.inr ⟨q0, hP0, Or.inl ⟨Or.inl c20, rfl, rfl⟩⟩ | exact Or.inr ⟨q0, hP0, Or.inl ⟨Or.inr (Or.inl ((nI_ltI (by omega) (by omega)).mpr (by omega))), rfl, rfl⟩⟩ | exact Or.inr ⟨q0, hP0, Or.inl ⟨Or.inr (Or.inr (Or.inl c35)), rfl, rfl⟩⟩ | exact Or.inr ⟨q0, hP0, Or.inl ⟨Or.inr (Or.inr (Or.inr ((nI_ltI (by omega) (by omega)).mpr (by omega)))), rfl, rfl⟩⟩
    · skip
      obtain ⟨k0_n, h_k0, rfl⟩ := nI_of c20
      refine lv_iload_n hC.1 hC.2.1 dX7_column_23 rfl (lv_at hl 3 rfl) ?_
      refine lv_aload_n hC.1 hC.2.1 dX7_column_24 rfl (lv_at hl 1 rfl) ?_
      refine g_x_now hC fi_X7_column_X7 hK hX (wd9 hC 1 rfl) dX7_column_25 ?_
      refine gN_most (k := 0) (by decide) hC fi_X7_column_X5 hK hX (hnf hK 1 rfl) dX7_column_28 (v := st_most (x_now S)) rfl ?_
      refine n_icmp_gt hC (a := k0_n) (b := st_most (x_now S)) (tgt := 49) dX7_column_31 (by decide) (by omega) (by omega) (fun c31 => ?_) (fun c31 => ?_)
      · skip
        refine lv_ldc2 (v := (-2 : Int64)) hC.1 hC.2.1 hC.2.2.2.1 (wd9 hC 3 rfl) dX7_column_49 ?_
        refine r_lreturn hC hr hlk hX dX7_column_52 ?_
        first | exact Or.inr ⟨q0, hP0, Or.inl ⟨Or.inl c20, rfl, rfl⟩⟩ | exact Or.inr ⟨q0, hP0, Or.inl ⟨Or.inr (Or.inl ((nI_ltI (by omega) (by omega)).mpr (by omega))), rfl, rfl⟩⟩ | exact Or.inr ⟨q0, hP0, Or.inl ⟨Or.inr (Or.inr (Or.inl c35)), rfl, rfl⟩⟩ | exact Or.inr ⟨q0, hP0, Or.inl ⟨Or.inr (Or.inr (Or.inr ((nI_ltI (by omega) (by omega)).mpr (by omega)))), rfl, rfl⟩⟩
      · skip
        refine lv_iload_n hC.1 hC.2.1 dX7_column_34 rfl (lv_at hl 4 rfl) ?_
        refine lv_if_lt hC.1 hC.2.1 (x := e0) (tgt := 49) dX7_column_35 (by decide) (fun c35 => ?_) (fun c35 => ?_)
        · skip
          refine lv_ldc2 (v := (-2 : Int64)) hC.1 hC.2.1 hC.2.2.2.1 (wd9 hC 3 rfl) dX7_column_49 ?_
          refine r_lreturn hC hr hlk hX dX7_column_52 ?_
          first | exact Or.inr ⟨q0, hP0, Or.inl ⟨Or.inl c20, rfl, rfl⟩⟩ | exact Or.inr ⟨q0, hP0, Or.inl ⟨Or.inr (Or.inl ((nI_ltI (by omega) (by omega)).mpr (by omega))), rfl, rfl⟩⟩ | exact Or.inr ⟨q0, hP0, Or.inl ⟨Or.inr (Or.inr (Or.inl c35)), rfl, rfl⟩⟩ | exact Or.inr ⟨q0, hP0, Or.inl ⟨Or.inr (Or.inr (Or.inr ((nI_ltI (by omega) (by omega)).mpr (by omega)))), rfl, rfl⟩⟩
        · skip
          obtain ⟨e0_n, h_e0, rfl⟩ := nI_of c35
          refine lv_iload_n hC.1 hC.2.1 dX7_column_38 rfl (lv_at hl 4 rfl) ?_
          refine lv_aload_n hC.1 hC.2.1 dX7_column_39 rfl (lv_at hl 1 rfl) ?_
          refine g_x_now hC fi_X7_column_X7 hK hX (wd9 hC 1 rfl) dX7_column_40 ?_
          refine gN_len (k := 0) (by decide) hC fi_X7_column_X5 hK hX (hnf hK 5 rfl) dX7_column_43 (v := st_len (x_now S)) rfl ?_
          refine n_icmp_le hC (a := e0_n) (b := st_len (x_now S)) (tgt := 53) dX7_column_46 (by decide) (by omega) (by omega) (fun c46 => ?_) (fun c46 => ?_)
          · skip
            refine lv_aload_n hC.1 hC.2.1 dX7_column_53 rfl (lv_at hl 1 rfl) ?_
            refine g_x_search hC fi_X7_column_X7 hK hX (wd9 hC 4 rfl) dX7_column_54 ?_
            refine lv_aload_n hC.1 hC.2.1 dX7_column_57 rfl (lv_at hl 1 rfl) ?_
            refine g_x_now hC fi_X7_column_X7 hK hX (wd9 hC 1 rfl) dX7_column_58 ?_
            refine lv_aload hC.1 hC.2.1 dX7_column_61 (lv_at hl 0 rfl) ?_
            refine lv_iload_n hC.1 hC.2.1 dX7_column_63 rfl (lv_at hl 3 rfl) ?_
            refine lv_iload_n hC.1 hC.2.1 dX7_column_64 rfl (lv_at hl 4 rfl) ?_
            refine cv_L (As := [.ref (ad 0), .ref (pd_a q0), .int (nI (k0_n)), .int (nI (e0_n))]) (rest := []) hC hK hA hX (c_X4_columnAt l G ad (S) q0 _ hq_q0 hm0 hTm hT hTn (k0_n) (e0_n) (by omega) (by omega)) (cwV 4 hC.2.2.2.2 gX7_column_X4_columnAt rfl rfl rfl hd_X4_columnAt ⟨Nat.le_of_ble_eq_true rfl, Nat.le_of_ble_eq_true rfl⟩) (ci := 4) (q := (RX4, TX4, 8)) rfl (q0 := 24) rfl dX7_column_65 rfl hl.1 rfl (Nat.le_of_ble_eq_true rfl) ⟨(Nat.zero_le _), (Nat.zero_le _)⟩ (fun r9 S9 H locs hp9 hX => ?_)
            obtain ⟨cf9, hS9, hcol⟩ := hp9
            rw [hS9] at hX
            replace hX : HH G A s.heap (wX G ad (u_cols (S) (cf9))) H locs := hX
            refine r_lreturn hC hr hlk hX dX7_column_68 ?_
            exact Or.inr ⟨q0, hP0, Or.inr ⟨k0_n, e0_n, _, rfl, rfl, by omega, by omega, rfl, hcol⟩⟩
          · skip
            refine lv_ldc2 (v := (-2 : Int64)) hC.1 hC.2.1 hC.2.2.2.1 (wd9 hC 3 rfl) dX7_column_49 ?_
            refine r_lreturn hC hr hlk hX dX7_column_52 ?_
            first | exact Or.inr ⟨q0, hP0, Or.inl ⟨Or.inl c20, rfl, rfl⟩⟩ | exact Or.inr ⟨q0, hP0, Or.inl ⟨Or.inr (Or.inl ((nI_ltI (by omega) (by omega)).mpr (by omega))), rfl, rfl⟩⟩ | exact Or.inr ⟨q0, hP0, Or.inl ⟨Or.inr (Or.inr (Or.inl c35)), rfl, rfl⟩⟩ | exact Or.inr ⟨q0, hP0, Or.inl ⟨Or.inr (Or.inr (Or.inr ((nI_ltI (by omega) (by omega)).mpr (by omega)))), rfl, rfl⟩⟩
  · obtain rfl : r9 = none := hr9
    have hP0 : noP S p0 := hn9
    refine lv_astoreN (lv' := [(4, .null), (0, .ref (ad 34)), (1, .int (p0)), (2, .int (k0)), (3, .int (e0))]) hC.1 hC.2.1 dX7_column_8 hl (by decide) rfl (fun ls hl => ?_)
    refine lv_aloadN hC.1 hC.2.1 dX7_column_10 (lv_at hl 0 rfl) ?_
    refine lv_ifnonnullN hC.1 hC.2.1 dX7_column_12 ?_
    refine lv_ldc2 (v := (-1 : Int64)) hC.1 hC.2.1 hC.2.2.2.1 (wd9 hC 2 rfl) dX7_column_15 ?_
    refine r_lreturn hC hr hlk hX dX7_column_18 ?_
    exact Or.inl ⟨hP0, rfl, rfl⟩
theorem fi_X7_writePad_X7 : ∀ w ∈ wsX70, w ∈ wsX7_writePad := by decide +kernel
theorem hd_X1_canBeWritten : yX1_canBeWritten.cls = RX1 ∧ yX1_canBeWritten.cls ≠ "java/lang/invoke/MethodHandle" ∧ yX1_canBeWritten.cls ≠ "java/lang/invoke/VarHandle" ∧ (parseMethodDescriptor yX1_canBeWritten.desc).map (fun d => d.parameters.length) = some 0 := by decide +kernel
theorem fi_X7_writePad_X5 : ∀ w ∈ wsX50, w ∈ wsX7_writePad := by decide +kernel
theorem fi_X7_writePad_X1 : ∀ w ∈ wsX10, w ∈ wsX7_writePad := by decide +kernel
set_option maxHeartbeats 4000000 in
set_option maxRecDepth 100000 in
theorem c_X7_writePad (l : Launch) (G : GX) (ad : Nat → Nat) (S : XS) (hok : okX S) : CtI l yX7_writePad wsX7_writePad { frames := 3, cells := 0, slots := 0, locals := 76 } G (wX G ad) (S) [.ref (ad 34)] (fun r S' => (¬ (canW (x_typed S) (x_plen S) = true ∧ 0 < x_plen S) ∧ r = -2 ∧ S' = S) ∨ ((canW (x_typed S) (x_plen S) = true ∧ 0 < x_plen S) ∧ ¬ st_len (x_now S) + x_plen S ≤ 120 ∧ r = -3 ∧ S' = S) ∨ ((canW (x_typed S) (x_plen S) = true ∧ 0 < x_plen S) ∧ st_len (x_now S) + x_plen S ≤ 120 ∧ r = nI (st_len (x_now S) + x_plen S) ∧ S' = u_now (recF S) (wrT (st_text (x_now S)) (x_typed S) (st_len (x_now S)) (x_plen S), st_len (x_now S) + x_plen S, st_pats (x_now S), st_pcnt (x_now S), st_most (x_now S)))) 0 0 := by
  refine CtI.of (cc := cX7_writePad) (maxL := 3) (ret := some .int) (by decide +kernel) rfl (Nat.le_of_ble_eq_true rfl) ?_
  intro p e s m args below meth c ls A hC hr hlk hin hK hA hX hl
  have hl : lv_has ls 3 [(0, .ref (ad 34))] := hl
  have hokk := hok
  obtain ⟨hok1, hok2, hok3, hok4, hok5, hok6, hok7, hok8, hok9, hokA, hokB⟩ := hok
  obtain ⟨hT, hTn, hTp, hTm, hTi, hTj⟩ := hok1
  refine lv_aload_n hC.1 hC.2.1 dX7_writePad_0 rfl (lv_at hl 0 rfl) ?_
  refine g_x_pad hC fi_X7_writePad_X7 hK hX (wd9 hC 1 rfl) dX7_writePad_1 ?_
  refine cv_I (As := []) (rest := []) hC hK hA hX (c_X1_canBeWritten l G ad (S) hok7 hok8) (cwV 0 hC.2.2.2.2 gX7_writePad_X1_canBeWritten rfl rfl rfl hd_X1_canBeWritten ⟨Nat.le_of_ble_eq_true rfl, Nat.le_of_ble_eq_true rfl⟩) (ci := 1) (q := (RX1, TX1, 2)) rfl (q0 := 20) rfl dX7_writePad_4 rfl hl.1 rfl (Nat.le_of_ble_eq_true rfl) ⟨(Nat.zero_le _), (Nat.zero_le _)⟩ (fun r9 S9 H locs hp9 hX => ?_)
  obtain ⟨rfl, hS9⟩ := hp9
  rw [hS9] at hX
  replace hX : HH G A s.heap (wX G ad (S)) H locs := hX
  refine b_if_ne hC (b := decide (canW (x_typed S) (x_plen S) = true ∧ 0 < x_plen S)) (tgt := 13) dX7_writePad_7 (by decide) (fun c7 => ?_) (fun c7 => ?_)
  · skip
    refine lv_aload_n hC.1 hC.2.1 dX7_writePad_13 rfl (lv_at hl 0 rfl) ?_
    refine g_x_now hC fi_X7_writePad_X7 hK hX (wd9 hC 2 rfl) dX7_writePad_14 ?_
    refine gN_len (k := 0) (by decide) hC fi_X7_writePad_X5 hK hX (hnf hK 5 rfl) dX7_writePad_17 (v := st_len (x_now S)) rfl ?_
    refine lv_aload_n hC.1 hC.2.1 dX7_writePad_20 rfl (lv_at hl 0 rfl) ?_
    refine g_x_pad hC fi_X7_writePad_X7 hK hX (wd9 hC 1 rfl) dX7_writePad_21 ?_
    refine gN_pad_length hC fi_X7_writePad_X1 hK hX (hnf hK 6 rfl) dX7_writePad_24 (v := x_plen S) rfl ?_
    refine n_add hC (a := st_len (x_now S)) (b := x_plen S) dX7_writePad_27 ?_
    refine lv_bipush (v := nI (120)) hC.1 hC.2.1 dX7_writePad_28 (by decide +kernel) ?_
    refine n_icmp_le hC (a := (st_len (x_now S)) + (x_plen S)) (b := 120) (tgt := 36) dX7_writePad_30 (by decide) (by omega) (by decide) (fun c30 => ?_) (fun c30 => ?_)
    · skip
      refine lv_aload_n hC.1 hC.2.1 dX7_writePad_36 rfl (lv_at hl 0 rfl) ?_
      refine g_x_history hC fi_X7_writePad_X7 hK hX (wd9 hC 3 rfl) dX7_writePad_37 ?_
      refine lv_aload_n hC.1 hC.2.1 dX7_writePad_40 rfl (lv_at hl 0 rfl) ?_
      refine g_x_now hC fi_X7_writePad_X7 hK hX (wd9 hC 2 rfl) dX7_writePad_41 ?_
      refine cv_V (As := [.ref (ad 0)]) (rest := []) hC hK hA hX (c_X0_record l G ad (S) hok4 hT.1 hTi hok6) (cwV 1 hC.2.2.2.2 gX7_writePad_X0_record rfl rfl rfl hd_X0_record ⟨Nat.le_of_ble_eq_true rfl, Nat.le_of_ble_eq_true rfl⟩) (ci := 0) (q := (RX0, TX0, 2)) rfl (q0 := 18) rfl dX7_writePad_44 rfl hl.1 rfl (Nat.le_of_ble_eq_true rfl) ⟨(Nat.zero_le _), (Nat.zero_le _)⟩ (fun S9 H locs hp9 hX => ?_)
      obtain ⟨pm9, hh9, hS9, hrec9⟩ := hp9
      obtain ⟨rfl, rfl⟩ := rec_det hrec9
      rw [hS9] at hX
      replace hX : HH G A s.heap (wX G ad (u_hcnt (u_perm (u_hs (S) (va_up (x_hs S) (rcP S (rcH S)) (cpSt (x_hs S (rcP S (rcH S))) (x_now S)))) (rcP S)) (rcH S + 1))) H locs := hX
      refine lv_iconst (v := nI (0)) hC.1 hC.2.1 dX7_writePad_47 rfl ?_
      refine lv_istore_n (lv' := [(1, .int (nI (0))), (0, .ref (ad 34))]) hC.1 hC.2.1 dX7_writePad_48 rfl hl (by decide) rfl (fun ls hl => ?_)
      have loop49 : ∀ (n9 : Nat) (i : Nat), (i ≤ x_plen S) → x_plen S - i < n9 → ∀ (H : Heap) (locs : List Loc) (ls : Array Slot), HH G A s.heap (wX G ad (u_hcnt (u_perm (u_hs (u_now S (wrT (st_text (x_now S)) (x_typed S) (st_len (x_now S)) i, st_len (x_now S) + i, st_pats (x_now S), st_pcnt (x_now S), st_most (x_now S))) (va_up (x_hs S) (rcP S (rcH S)) (cpSt (x_hs S (rcP S (rcH S))) (x_now S)))) (rcP S)) (rcH S + 1))) H locs → lv_has ls 3 [(1, .int (nI (i))), (0, .ref (ad 34))] → W p l e { frames := 3, cells := 0, slots := 0, locals := 76 } s m args below meth c H locs 0 0 (EndI G (wX G ad) A (fun r S' => (¬ (canW (x_typed S) (x_plen S) = true ∧ 0 < x_plen S) ∧ r = -2 ∧ S' = S) ∨ ((canW (x_typed S) (x_plen S) = true ∧ 0 < x_plen S) ∧ ¬ st_len (x_now S) + x_plen S ≤ 120 ∧ r = -3 ∧ S' = S) ∨ ((canW (x_typed S) (x_plen S) = true ∧ 0 < x_plen S) ∧ st_len (x_now S) + x_plen S ≤ 120 ∧ r = nI (st_len (x_now S) + x_plen S) ∧ S' = u_now (recF S) (wrT (st_text (x_now S)) (x_typed S) (st_len (x_now S)) (x_plen S), st_len (x_now S) + x_plen S, st_pats (x_now S), st_pcnt (x_now S), st_most (x_now S)))) below args s 0 0) (F0 m 49 ls []) := by
        intro n9
        induction n9 with
        | zero => intro i hi hn9; exact absurd hn9 (Nat.not_lt_zero _)
        | succ n9 ih49 =>
          intro i hi hn9 H locs ls hX hl
          refine lv_iload_n hC.1 hC.2.1 dX7_writePad_49 rfl (lv_at hl 0 rfl) ?_
          refine lv_aload_n hC.1 hC.2.1 dX7_writePad_50 rfl (lv_at hl 1 rfl) ?_
          refine g_x_pad hC fi_X7_writePad_X7 hK hX (wd9 hC 1 rfl) dX7_writePad_51 ?_
          refine gN_pad_length hC fi_X7_writePad_X1 hK hX (hnf hK 6 rfl) dX7_writePad_54 (v := x_plen S) rfl ?_
          refine n_icmp_ge hC (a := i) (b := x_plen S) (tgt := 94) dX7_writePad_57 (by decide) (by omega) (by omega) (fun c57 => ?_) (fun c57 => ?_)
          · skip
            refine lv_aload_n hC.1 hC.2.1 dX7_writePad_94 rfl (lv_at hl 1 rfl) ?_
            refine g_x_now hC fi_X7_writePad_X7 hK hX (wd9 hC 2 rfl) dX7_writePad_95 ?_
            refine gN_len (k := 0) (by decide) hC fi_X7_writePad_X5 hK hX (hnf hK 5 rfl) dX7_writePad_98 (v := st_len (x_now S) + i) rfl ?_
            refine r_ireturn hC hr hlk hX dX7_writePad_101 ?_
            obtain rfl : i = x_plen S := by omega
            exact Or.inr (Or.inr ⟨by simpa using c7, by omega, rfl, rfl⟩)
          · skip
            refine lv_aload_n hC.1 hC.2.1 dX7_writePad_60 rfl (lv_at hl 1 rfl) ?_
            refine g_x_pad hC fi_X7_writePad_X7 hK hX (wd9 hC 1 rfl) dX7_writePad_61 ?_
            refine lv_iload_n hC.1 hC.2.1 dX7_writePad_64 rfl (lv_at hl 0 rfl) ?_
            refine cv_I (As := [.int (nI (i))]) (rest := []) hC hK hA hX (c_X1_signAt l G ad (u_hcnt (u_perm (u_hs (u_now S (wrT (st_text (x_now S)) (x_typed S) (st_len (x_now S)) i, st_len (x_now S) + i, st_pats (x_now S), st_pcnt (x_now S), st_most (x_now S))) (va_up (x_hs S) (rcP S (rcH S)) (cpSt (x_hs S (rcP S (rcH S))) (x_now S)))) (rcP S)) (rcH S + 1)) (i) (by omega) (hok8 _)) (cwV 1 hC.2.2.2.2 gX7_writePad_X1_signAt rfl rfl rfl hd_X1_signAt ⟨Nat.le_of_ble_eq_true rfl, Nat.le_of_ble_eq_true rfl⟩) (ci := 1) (q := (RX1, TX1, 2)) rfl (q0 := 20) rfl dX7_writePad_65 rfl hl.1 rfl (Nat.le_of_ble_eq_true rfl) ⟨(Nat.zero_le _), (Nat.zero_le _)⟩ (fun r9 S9 H locs hp9 hX => ?_)
            obtain ⟨rfl, hS9⟩ := hp9
            rw [hS9] at hX
            replace hX : HH G A s.heap (wX G ad (u_hcnt (u_perm (u_hs (u_now S (wrT (st_text (x_now S)) (x_typed S) (st_len (x_now S)) i, st_len (x_now S) + i, st_pats (x_now S), st_pcnt (x_now S), st_most (x_now S))) (va_up (x_hs S) (rcP S (rcH S)) (cpSt (x_hs S (rcP S (rcH S))) (x_now S)))) (rcP S)) (rcH S + 1))) H locs := hX
            refine lv_istore_n (lv' := [(2, .int (nI ((x_typed S) i))), (1, .int (nI (i))), (0, .ref (ad 34))]) hC.1 hC.2.1 dX7_writePad_68 rfl hl (by decide) rfl (fun ls hl => ?_)
            refine lv_aload_n hC.1 hC.2.1 dX7_writePad_69 rfl (lv_at hl 2 rfl) ?_
            refine g_x_now hC fi_X7_writePad_X7 hK hX (wd9 hC 2 rfl) dX7_writePad_70 ?_
            refine lv_iload_n hC.1 hC.2.1 dX7_writePad_73 rfl (lv_at hl 0 rfl) ?_
            refine lv_bipush (v := nI (95)) hC.1 hC.2.1 dX7_writePad_74 (by decide +kernel) ?_
            have join85 : ∀ (H : Heap) (locs : List Loc) (ls : Array Slot), HH G A s.heap (wX G ad (u_hcnt (u_perm (u_hs (u_now S (wrT (st_text (x_now S)) (x_typed S) (st_len (x_now S)) i, st_len (x_now S) + i, st_pats (x_now S), st_pcnt (x_now S), st_most (x_now S))) (va_up (x_hs S) (rcP S (rcH S)) (cpSt (x_hs S (rcP S (rcH S))) (x_now S)))) (rcP S)) (rcH S + 1))) H locs → lv_has ls 3 [(2, .int (nI ((x_typed S) i))), (1, .int (nI (i))), (0, .ref (ad 34))] → W p l e { frames := 3, cells := 0, slots := 0, locals := 76 } s m args below meth c H locs 0 0 (EndI G (wX G ad) A (fun r S' => (¬ (canW (x_typed S) (x_plen S) = true ∧ 0 < x_plen S) ∧ r = -2 ∧ S' = S) ∨ ((canW (x_typed S) (x_plen S) = true ∧ 0 < x_plen S) ∧ ¬ st_len (x_now S) + x_plen S ≤ 120 ∧ r = -3 ∧ S' = S) ∨ ((canW (x_typed S) (x_plen S) = true ∧ 0 < x_plen S) ∧ st_len (x_now S) + x_plen S ≤ 120 ∧ r = nI (st_len (x_now S) + x_plen S) ∧ S' = u_now (recF S) (wrT (st_text (x_now S)) (x_typed S) (st_len (x_now S)) (x_plen S), st_len (x_now S) + x_plen S, st_pats (x_now S), st_pcnt (x_now S), st_most (x_now S)))) below args s 0 0) (F0 m 85 ls [.int (nI (sgn95 (x_typed S i))), .ref (ad 0)]) := by
              intro  H locs ls  hX hl
              refine cv_V (As := [.int (nI (sgn95 (x_typed S i)))]) (rest := []) hC hK hA hX (c_X5_append l G ad (u_hcnt (u_perm (u_hs (u_now S (wrT (st_text (x_now S)) (x_typed S) (st_len (x_now S)) i, st_len (x_now S) + i, st_pats (x_now S), st_pcnt (x_now S), st_most (x_now S))) (va_up (x_hs S) (rcP S (rcH S)) (cpSt (x_hs S (rcP S (rcH S))) (x_now S)))) (rcP S)) (rcH S + 1)) (sgn95 (x_typed S i)) (sgn95_lt (hok8 _)) (show st_len (x_now S) + i < 120 from by omega)) (cwV 1 hC.2.2.2.2 gX7_writePad_X5_append rfl rfl rfl hd_X5_append ⟨Nat.le_of_ble_eq_true rfl, Nat.le_of_ble_eq_true rfl⟩) (ci := 5) (q := (RX5, TX5, 5)) rfl (q0 := 0) rfl dX7_writePad_85 rfl hl.1 rfl (Nat.le_of_ble_eq_true rfl) ⟨(Nat.zero_le _), (Nat.zero_le _)⟩ (fun S9 H locs hp9 hX => ?_)
              rw [hp9] at hX
              replace hX : HH G A s.heap (wX G ad (u_hcnt (u_perm (u_hs (u_now S (va_up (wrT (st_text (x_now S)) (x_typed S) (st_len (x_now S)) i) (st_len (x_now S) + i) (sgn95 (x_typed S i)), st_len (x_now S) + i + 1, st_pats (x_now S), st_pcnt (x_now S), st_most (x_now S))) (va_up (x_hs S) (rcP S (rcH S)) (cpSt (x_hs S (rcP S (rcH S))) (x_now S)))) (rcP S)) (rcH S + 1))) H locs := hX
              refine lv_iinc (v := nI (i + 1)) (lv' := [(1, .int (nI (i + 1))), (2, .int (nI ((x_typed S) i))), (0, .ref (ad 34))]) hC.1 hC.2.1 dX7_writePad_88 hl (k := 1) rfl (n_inc1 _) (by decide) rfl (fun ls hl => ?_)
              refine lv_goto (tgt := 49) hC.1 hC.2.1 dX7_writePad_91 (by decide) ?_
              refine ih49 (i + 1) ?_ ?_ _ _ ls hX (lv_sub hl [0, 2] rfl)
              · omega
              · omega
            refine n_icmp_ne hC (a := (x_typed S) i) (b := 95) (tgt := 84) dX7_writePad_76 (by decide) (by have := hok8 i; omega) (by decide) (fun c76 => ?_) (fun c76 => ?_)
            · skip
              refine lv_iload_n hC.1 hC.2.1 dX7_writePad_84 rfl (lv_at hl 0 rfl) ?_
              refine n_top (y := nI (sgn95 (x_typed S i))) (by first | exact congrArg nI (if_pos (by assumption)).symm | exact congrArg nI (if_neg (by assumption)).symm) ?_
              refine join85  _ _ ls  hX (lv_sub hl [0, 1, 2] rfl)
            · skip
              refine lv_bipush (v := nI (32)) hC.1 hC.2.1 dX7_writePad_79 (by decide +kernel) ?_
              refine lv_goto (tgt := 85) hC.1 hC.2.1 dX7_writePad_81 (by decide) ?_
              refine n_top (y := nI (sgn95 (x_typed S i))) (by first | exact congrArg nI (if_pos (by assumption)).symm | exact congrArg nI (if_neg (by assumption)).symm) ?_
              refine join85  _ _ ls  hX (lv_sub hl [0, 1, 2] rfl)
      refine loop49 _ (0) ?_ (Nat.lt_succ_self _) _ _ ls hX (lv_sub hl [0, 1] rfl)
      · omega
    · skip
      refine lv_bipush (v := (-3)) hC.1 hC.2.1 dX7_writePad_33 (by decide +kernel) ?_
      refine r_ireturn hC hr hlk hX dX7_writePad_35 ?_
      exact Or.inr (Or.inl ⟨by simpa using c7, by omega, rfl, rfl⟩)
  · skip
    refine lv_bipush (v := (-2)) hC.1 hC.2.1 dX7_writePad_10 (by decide +kernel) ?_
    refine r_ireturn hC hr hlk hX dX7_writePad_12 ?_
    exact Or.inl ⟨by simpa using c7, rfl, rfl⟩
theorem fi_X7_end_X7 : ∀ w ∈ wsX70, w ∈ wsX7_end := by decide +kernel
theorem fi_X7_end_X4 : ∀ w ∈ wsX40, w ∈ wsX7_end := by decide +kernel
theorem hd_X4_findAlone : yX4_findAlone.cls = RX4 ∧ yX4_findAlone.cls ≠ "java/lang/invoke/MethodHandle" ∧ yX4_findAlone.cls ≠ "java/lang/invoke/VarHandle" ∧ (parseMethodDescriptor yX4_findAlone.desc).map (fun d => d.parameters.length) = some 2 := by decide +kernel
set_option maxHeartbeats 4000000 in
set_option maxRecDepth 100000 in
theorem c_X7_end (l : Launch) (G : GX) (ad : Nat → Nat) (S : XS) (hok : okX S) (p0 : Int32) (r0 : Int32) (a0 : Bool) (w0 : Int32) : CtI l yX7_end wsX7_end { frames := 5, cells := 0, slots := 0, locals := 134 } G (wX G ad) (S) [.ref (ad 34), .int (p0), .int (r0), .int (bI (a0)), .int (w0)] (fun r S' => (noP S p0 ∧ r = -1 ∧ S' = S) ∨ ∃ q, hasP S p0 q ∧ (((r0 < 0 ∨ w0 < 0 ∨ nI 2 < w0) ∧ r = -2 ∧ S' = S) ∨ ∃ rk w, r0 = nI rk ∧ rk < 2 ^ 31 ∧ w0 = nI w ∧ w ≤ 2 ∧ scrX S S' ∧ ((cS (selA q S a0) (st_len (x_now S) + 1) ≤ rk ∧ r = -5) ∨ (rk < cS (selA q S a0) (st_len (x_now S) + 1) ∧ ∃ ef, LR ef (selA q S a0) (st_len (x_now S) + 1) ∧ r = endV q S w (ef rk))))) 0 0 := by
  refine CtI.of (cc := cX7_end) (maxL := 6) (ret := some .int) (by decide +kernel) rfl (Nat.le_of_ble_eq_true rfl) ?_
  intro p e s m args below meth c ls A hC hr hlk hin hK hA hX hl
  have hl : lv_has ls 6 [(0, .ref (ad 34)), (1, .int (p0)), (2, .int (r0)), (3, .int (bI (a0))), (4, .int (w0))] := hl
  have hokk := hok
  obtain ⟨hok1, hok2, hok3, hok4, hok5, hok6, hok7, hok8, hok9, hokA, hokB⟩ := hok
  obtain ⟨hT, hTn, hTp, hTm, hTi, hTj⟩ := hok1
  refine lv_aload_n hC.1 hC.2.1 dX7_end_0 rfl (lv_at hl 0 rfl) ?_
  refine g_x_now hC fi_X7_end_X7 hK hX (wd9 hC 1 rfl) dX7_end_1 ?_
  refine lv_iload_n hC.1 hC.2.1 dX7_end_4 rfl (lv_at hl 1 rfl) ?_
  refine cv_Q (As := [.int (p0)]) (rest := []) hC hK hA hX (c_X5_patternOrNull l G ad (S) (p0) hTp) (cwV 1 hC.2.2.2.2 gX7_end_X5_patternOrNull rfl rfl rfl hd_X5_patternOrNull ⟨Nat.le_of_ble_eq_true rfl, Nat.le_of_ble_eq_true rfl⟩) (ci := 5) (q := (RX5, TX5, 5)) rfl (q0 := 0) rfl dX7_end_5 rfl hl.1 rfl (Nat.le_of_ble_eq_true rfl) ⟨(Nat.zero_le _), (Nat.zero_le _)⟩ (fun r9 S9 H locs hp9 hX => ?_)
  obtain ⟨hr9, hS9⟩ := hp9
  rw [hS9] at hX
  replace hr9 : ((∃ j, p0 = nI j ∧ j < st_pcnt (x_now S) ∧ r9 = st_pats (x_now S) j) ∨ ((p0 < 0 ∨ nI (st_pcnt (x_now S)) ≤ p0) ∧ r9 = none)) := hr9
  replace hX : HH G A s.heap (wX G ad (S)) H locs := hX
  rcases hr9 with ⟨jp9, hjp9, hjc9, hr9⟩ | ⟨hn9, hr9⟩
  · obtain ⟨q0, jq0, hq_q0, hpa9⟩ := hTj jp9 hjc9
    obtain rfl : r9 = some (pd_a q0) := hr9.trans hpa9
    have hP0 : hasP S p0 q0 := ⟨jp9, hjp9, hjc9, hpa9, jq0, hq_q0⟩
    obtain ⟨hm1, hm0, hb0, hpt0⟩ := hokB q0 jq0 hq_q0
    refine lv_astore (lv' := [(5, .ref (pd_a q0)), (0, .ref (ad 34)), (1, .int (p0)), (2, .int (r0)), (3, .int (bI (a0))), (4, .int (w0))]) hC.1 hC.2.1 dX7_end_8 hl (by decide) rfl (fun ls hl => ?_)
    refine lv_aload hC.1 hC.2.1 dX7_end_10 (lv_at hl 0 rfl) ?_
    refine lv_ifnonnull (tgt := 17) hC.1 hC.2.1 dX7_end_12 (by decide) ?_
    refine lv_iload_n hC.1 hC.2.1 dX7_end_17 rfl (lv_at hl 3 rfl) ?_
    refine lv_if_lt hC.1 hC.2.1 (x := r0) (tgt := 32) dX7_end_18 (by decide) (fun c18 => ?_) (fun c18 => ?_)
    · skip
      refine lv_bipush (v := (-2)) hC.1 hC.2.1 dX7_end_32 (by decide +kernel) ?_
      refine r_ireturn hC hr hlk hX dX7_end_34 ?_
      first | exact Or.inr ⟨q0, hP0, Or.inl ⟨Or.inl c18, rfl, rfl⟩⟩ | exact Or.inr ⟨q0, hP0, Or.inl ⟨Or.inr (Or.inl c23), rfl, rfl⟩⟩ | exact Or.inr ⟨q0, hP0, Or.inl ⟨Or.inr (Or.inr ((nI_ltI (by omega) (by omega)).mpr (by omega))), rfl, rfl⟩⟩
    · skip
      obtain ⟨r0_n, h_r0, rfl⟩ := nI_of c18
      refine lv_iload hC.1 hC.2.1 dX7_end_21 (lv_at hl 5 rfl) ?_
      refine lv_if_lt hC.1 hC.2.1 (x := w0) (tgt := 32) dX7_end_23 (by decide) (fun c23 => ?_) (fun c23 => ?_)
      · skip
        refine lv_bipush (v := (-2)) hC.1 hC.2.1 dX7_end_32 (by decide +kernel) ?_
        refine r_ireturn hC hr hlk hX dX7_end_34 ?_
        first | exact Or.inr ⟨q0, hP0, Or.inl ⟨Or.inl c18, rfl, rfl⟩⟩ | exact Or.inr ⟨q0, hP0, Or.inl ⟨Or.inr (Or.inl c23), rfl, rfl⟩⟩ | exact Or.inr ⟨q0, hP0, Or.inl ⟨Or.inr (Or.inr ((nI_ltI (by omega) (by omega)).mpr (by omega))), rfl, rfl⟩⟩
      · skip
        obtain ⟨w0_n, h_w0, rfl⟩ := nI_of c23
        refine lv_iload hC.1 hC.2.1 dX7_end_26 (lv_at hl 5 rfl) ?_
        refine lv_iconst (v := nI (2)) hC.1 hC.2.1 dX7_end_28 rfl ?_
        refine n_icmp_le hC (a := w0_n) (b := 2) (tgt := 35) dX7_end_29 (by decide) (by omega) (by decide) (fun c29 => ?_) (fun c29 => ?_)
        · skip
          refine lv_iload_n hC.1 hC.2.1 dX7_end_35 rfl (lv_at hl 4 rfl) ?_
          refine b_if_eq hC (b := a0) (tgt := 55) dX7_end_36 (by decide) (fun c36 => ?_) (fun c36 => ?_)
          · skip
            refine lv_aload_n hC.1 hC.2.1 dX7_end_55 rfl (lv_at hl 1 rfl) ?_
            refine g_x_search hC fi_X7_end_X7 hK hX (wd9 hC 2 rfl) dX7_end_56 ?_
            refine lv_aload_n hC.1 hC.2.1 dX7_end_59 rfl (lv_at hl 1 rfl) ?_
            refine g_x_now hC fi_X7_end_X7 hK hX (wd9 hC 1 rfl) dX7_end_60 ?_
            refine lv_aload hC.1 hC.2.1 dX7_end_63 (lv_at hl 0 rfl) ?_
            refine cv_V (As := [.ref (ad 0), .ref (pd_a q0)]) (rest := []) hC hK hA hX (c_X4_findEnds l G ad (S) q0 _ hq_q0 hm0 hTm hT hTn) (cwV 2 hC.2.2.2.2 gX7_end_X4_findEnds rfl rfl rfl hd_X4_findEnds ⟨Nat.le_of_ble_eq_true rfl, Nat.le_of_ble_eq_true rfl⟩) (ci := 4) (q := (RX4, TX4, 8)) rfl (q0 := 24) rfl dX7_end_65 rfl hl.1 rfl (Nat.le_of_ble_eq_true rfl) ⟨(Nat.zero_le _), (Nat.zero_le _)⟩ (fun S9 H locs hp9 hX => ?_)
            obtain ⟨cf65, sf65, ef65, hS9, hLR65, hsf65⟩ := hp9
            rw [hS9] at hX
            replace hsf65 : ∀ e, e ≤ st_len (x_now S) → sf65 e = slipV (dX q0 S e) (st_most (x_now S)) := hsf65
            replace hLR65 : LR ef65 (selX q0 S) (st_len (x_now S) + 1) := hLR65
            replace hX : HH G A s.heap (wX G ad (u_listed (u_ends (u_slipsAt (u_cols (S) (cf65)) (sf65)) (ef65)) (cS (selX q0 S) (st_len (x_now S) + 1)))) H locs := hX
            have hcl65 := cS_le (selX q0 S) (st_len (x_now S) + 1)
            have hsX65 := @sf_sel q0 S sf65 hsf65
            have hn9 : cS (selX q0 S) (st_len (x_now S) + 1) ≤ 121 := by omega
            have he9 : ∀ r, r < cS (selX q0 S) (st_len (x_now S) + 1) → ef65 r ≤ 120 := fun r hr => by have := (LR_at hLR65 hr).1; omega
            have hg9 : ∀ r, r < cS (selX q0 S) (st_len (x_now S) + 1) → sf65 (ef65 r) = nI (gX q0 S ef65 r) := fun r hr => ends_g hTm hLR65 hsf65 hr
            have hg19 : ∀ r, gX q0 S ef65 r ≤ 200 := fun r => Nat.le_trans (gX_4 _ _ _ _) (by decide)
            refine lv_iload_n hC.1 hC.2.1 dX7_end_68 rfl (lv_at hl 3 rfl) ?_
            refine lv_aload_n hC.1 hC.2.1 dX7_end_69 rfl (lv_at hl 1 rfl) ?_
            refine g_x_search hC fi_X7_end_X7 hK hX (wd9 hC 2 rfl) dX7_end_70 ?_
            refine gN_search_listed hC fi_X7_end_X4 hK hX (hnf hK 7 rfl) dX7_end_73 (v := cS (selX q0 S) (st_len (x_now S) + 1)) rfl ?_
            refine n_icmp_lt hC (a := r0_n) (b := cS (selX q0 S) (st_len (x_now S) + 1)) (tgt := 82) dX7_end_76 (by decide) (by omega) (by omega) (fun c76 => ?_) (fun c76 => ?_)
            · skip
              refine lv_iload hC.1 hC.2.1 dX7_end_82 (lv_at hl 5 rfl) ?_
              refine lv_iconst (v := nI (2)) hC.1 hC.2.1 dX7_end_84 rfl ?_
              refine n_icmp_ne hC (a := w0_n) (b := 2) (tgt := 105) dX7_end_85 (by decide) (by omega) (by decide) (fun c85 => ?_) (fun c85 => ?_)
              · skip
                refine lv_aload_n hC.1 hC.2.1 dX7_end_105 rfl (lv_at hl 1 rfl) ?_
                refine g_x_search hC fi_X7_end_X7 hK hX (wd9 hC 2 rfl) dX7_end_106 ?_
                refine lv_iload_n hC.1 hC.2.1 dX7_end_109 rfl (lv_at hl 3 rfl) ?_
                refine lv_iload hC.1 hC.2.1 dX7_end_110 (lv_at hl 5 rfl) ?_
                refine cv_I (As := [.int (nI (r0_n)), .int (nI (w0_n))]) (rest := []) hC hK hA hX (c_X4_tell l G ad (u_listed (u_ends (u_slipsAt (u_cols (S) (cf65)) (sf65)) (ef65)) (cS (selX q0 S) (st_len (x_now S) + 1))) (r0_n) (w0_n) (by first | exact (show r0_n < cS (alX q0 S) (st_len (x_now S) + 1) from by omega) | exact (show r0_n < cS (selX q0 S) (st_len (x_now S) + 1) from by omega)) (by omega) ((by first | exact ⟨show cS (alX q0 S) (st_len (x_now S) + 1) ≤ 121 from by omega, show ef49 r0_n ≤ 120 from by have := (LR_at hLR49 (show r0_n < _ by omega)).1; omega⟩ | exact ⟨show cS (selX q0 S) (st_len (x_now S) + 1) ≤ 121 from by omega, show ef65 r0_n ≤ 120 from by have := (LR_at hLR65 (show r0_n < _ by omega)).1; omega⟩))) (cwV 2 hC.2.2.2.2 gX7_end_X4_tell rfl rfl rfl hd_X4_tell ⟨Nat.le_of_ble_eq_true rfl, Nat.le_of_ble_eq_true rfl⟩) (ci := 4) (q := (RX4, TX4, 8)) rfl (q0 := 24) rfl dX7_end_112 rfl hl.1 rfl (Nat.le_of_ble_eq_true rfl) ⟨(Nat.zero_le _), (Nat.zero_le _)⟩ (fun r9 S9 H locs hp9 hX => ?_)
                obtain ⟨h9, hS9⟩ := hp9
                obtain rfl : r9 = if w0_n = 0 then nI ((ef65) (r0_n)) else if w0_n = 1 then (sf65) ((ef65) (r0_n)) else nI ((x_begAt S) ((ef65) (r0_n))) := by first | exact h9 | (rw [h9]; exact rfl)
                rw [hS9] at hX
                replace hX : HH G A s.heap (wX G ad (u_listed (u_ends (u_slipsAt (u_cols (S) (cf65)) (sf65)) (ef65)) (cS (selX q0 S) (st_len (x_now S) + 1)))) H locs := hX
                refine r_ireturn hC hr hlk hX dX7_end_115 ?_
                obtain ⟨hs1, hs2, hs3⟩ := LR_at hLR65 (show r0_n < _ by omega)
                refine Or.inr ⟨q0, hP0, Or.inr ⟨r0_n, w0_n, rfl, by omega, rfl, by omega, ⟨rfl, rfl, rfl, rfl, rfl, rfl, rfl, rfl, rfl, rfl, rfl⟩, Or.inr ⟨by rw [selA_f c36]; omega, ef65, by rw [selA_f c36]; exact hLR65, ?_⟩⟩⟩
                exact endV_eq (fun _ => hsX65 (by omega) (hs2)) (fun z1 z2 => by first | exact (by omega) | (exfalso; omega) | (exfalso; rw [c36] at c89; exact absurd c89 (by decide)))
              · skip
                refine lv_iload_n hC.1 hC.2.1 dX7_end_88 rfl (lv_at hl 4 rfl) ?_
                refine b_if_ne hC (b := a0) (tgt := 105) dX7_end_89 (by decide) (fun c89 => ?_) (fun c89 => ?_)
                · skip
                  refine lv_aload_n hC.1 hC.2.1 dX7_end_105 rfl (lv_at hl 1 rfl) ?_
                  refine g_x_search hC fi_X7_end_X7 hK hX (wd9 hC 2 rfl) dX7_end_106 ?_
                  refine lv_iload_n hC.1 hC.2.1 dX7_end_109 rfl (lv_at hl 3 rfl) ?_
                  refine lv_iload hC.1 hC.2.1 dX7_end_110 (lv_at hl 5 rfl) ?_
                  refine cv_I (As := [.int (nI (r0_n)), .int (nI (w0_n))]) (rest := []) hC hK hA hX (c_X4_tell l G ad (u_listed (u_ends (u_slipsAt (u_cols (S) (cf65)) (sf65)) (ef65)) (cS (selX q0 S) (st_len (x_now S) + 1))) (r0_n) (w0_n) (by first | exact (show r0_n < cS (alX q0 S) (st_len (x_now S) + 1) from by omega) | exact (show r0_n < cS (selX q0 S) (st_len (x_now S) + 1) from by omega)) (by omega) ((by first | exact ⟨show cS (alX q0 S) (st_len (x_now S) + 1) ≤ 121 from by omega, show ef49 r0_n ≤ 120 from by have := (LR_at hLR49 (show r0_n < _ by omega)).1; omega⟩ | exact ⟨show cS (selX q0 S) (st_len (x_now S) + 1) ≤ 121 from by omega, show ef65 r0_n ≤ 120 from by have := (LR_at hLR65 (show r0_n < _ by omega)).1; omega⟩))) (cwV 2 hC.2.2.2.2 gX7_end_X4_tell rfl rfl rfl hd_X4_tell ⟨Nat.le_of_ble_eq_true rfl, Nat.le_of_ble_eq_true rfl⟩) (ci := 4) (q := (RX4, TX4, 8)) rfl (q0 := 24) rfl dX7_end_112 rfl hl.1 rfl (Nat.le_of_ble_eq_true rfl) ⟨(Nat.zero_le _), (Nat.zero_le _)⟩ (fun r9 S9 H locs hp9 hX => ?_)
                  obtain ⟨h9, hS9⟩ := hp9
                  obtain rfl : r9 = if w0_n = 0 then nI ((ef65) (r0_n)) else if w0_n = 1 then (sf65) ((ef65) (r0_n)) else nI ((x_begAt S) ((ef65) (r0_n))) := by first | exact h9 | (rw [h9]; exact rfl)
                  rw [hS9] at hX
                  replace hX : HH G A s.heap (wX G ad (u_listed (u_ends (u_slipsAt (u_cols (S) (cf65)) (sf65)) (ef65)) (cS (selX q0 S) (st_len (x_now S) + 1)))) H locs := hX
                  refine r_ireturn hC hr hlk hX dX7_end_115 ?_
                  obtain ⟨hs1, hs2, hs3⟩ := LR_at hLR65 (show r0_n < _ by omega)
                  refine Or.inr ⟨q0, hP0, Or.inr ⟨r0_n, w0_n, rfl, by omega, rfl, by omega, ⟨rfl, rfl, rfl, rfl, rfl, rfl, rfl, rfl, rfl, rfl, rfl⟩, Or.inr ⟨by rw [selA_f c36]; omega, ef65, by rw [selA_f c36]; exact hLR65, ?_⟩⟩⟩
                  exact endV_eq (fun _ => hsX65 (by omega) (hs2)) (fun z1 z2 => by first | exact (by omega) | (exfalso; omega) | (exfalso; rw [c36] at c89; exact absurd c89 (by decide)))
                · skip
                  refine lv_aload_n hC.1 hC.2.1 dX7_end_92 rfl (lv_at hl 1 rfl) ?_
                  refine g_x_search hC fi_X7_end_X7 hK hX (wd9 hC 2 rfl) dX7_end_93 ?_
                  refine lv_aload_n hC.1 hC.2.1 dX7_end_96 rfl (lv_at hl 1 rfl) ?_
                  refine g_x_now hC fi_X7_end_X7 hK hX (wd9 hC 1 rfl) dX7_end_97 ?_
                  refine lv_aload hC.1 hC.2.1 dX7_end_100 (lv_at hl 0 rfl) ?_
                  refine cv_V (As := [.ref (ad 0), .ref (pd_a q0)]) (rest := []) hC hK hA hX (c_X4_findBeginnings l G ad (u_listed (u_ends (u_slipsAt (u_cols (S) (cf65)) (sf65)) (ef65)) (cS (selX q0 S) (st_len (x_now S) + 1))) q0 _ hq_q0 hm0 hT hTn) (cwV 2 hC.2.2.2.2 gX7_end_X4_findBeginnings rfl rfl rfl hd_X4_findBeginnings ⟨Nat.le_of_ble_eq_true rfl, Nat.le_of_ble_eq_true rfl⟩) (ci := 4) (q := (RX4, TX4, 8)) rfl (q0 := 24) rfl dX7_end_102 rfl hl.1 rfl (Nat.le_of_ble_eq_true rfl) ⟨(Nat.zero_le _), (Nat.zero_le _)⟩ (fun S9 H locs hp9 hX => ?_)
                  obtain ⟨kf102, bf102, hS9, hbf102⟩ := hp9
                  rw [hS9] at hX
                  replace hbf102 : ∀ e, e ≤ st_len (x_now S) → bf102 e = bX q0 S e := hbf102
                  replace hX : HH G A s.heap (wX G ad (u_listed (u_ends (u_begAt (u_slipsAt (u_keys (u_cols (S) (cf65)) (kf102)) (sf65)) (bf102)) (ef65)) (cS (selX q0 S) (st_len (x_now S) + 1)))) H locs := hX
                  refine lv_aload_n hC.1 hC.2.1 dX7_end_105 rfl (lv_at hl 1 rfl) ?_
                  refine g_x_search hC fi_X7_end_X7 hK hX (wd9 hC 2 rfl) dX7_end_106 ?_
                  refine lv_iload_n hC.1 hC.2.1 dX7_end_109 rfl (lv_at hl 3 rfl) ?_
                  refine lv_iload hC.1 hC.2.1 dX7_end_110 (lv_at hl 5 rfl) ?_
                  refine cv_I (As := [.int (nI (r0_n)), .int (nI (w0_n))]) (rest := []) hC hK hA hX (c_X4_tell l G ad (u_listed (u_ends (u_begAt (u_slipsAt (u_keys (u_cols (S) (cf65)) (kf102)) (sf65)) (bf102)) (ef65)) (cS (selX q0 S) (st_len (x_now S) + 1))) (r0_n) (w0_n) (by first | exact (show r0_n < cS (alX q0 S) (st_len (x_now S) + 1) from by omega) | exact (show r0_n < cS (selX q0 S) (st_len (x_now S) + 1) from by omega)) (by omega) ((by first | exact ⟨show cS (alX q0 S) (st_len (x_now S) + 1) ≤ 121 from by omega, show ef49 r0_n ≤ 120 from by have := (LR_at hLR49 (show r0_n < _ by omega)).1; omega⟩ | exact ⟨show cS (selX q0 S) (st_len (x_now S) + 1) ≤ 121 from by omega, show ef65 r0_n ≤ 120 from by have := (LR_at hLR65 (show r0_n < _ by omega)).1; omega⟩))) (cwV 2 hC.2.2.2.2 gX7_end_X4_tell rfl rfl rfl hd_X4_tell ⟨Nat.le_of_ble_eq_true rfl, Nat.le_of_ble_eq_true rfl⟩) (ci := 4) (q := (RX4, TX4, 8)) rfl (q0 := 24) rfl dX7_end_112 rfl hl.1 rfl (Nat.le_of_ble_eq_true rfl) ⟨(Nat.zero_le _), (Nat.zero_le _)⟩ (fun r9 S9 H locs hp9 hX => ?_)
                  obtain ⟨h9, hS9⟩ := hp9
                  obtain rfl : r9 = if w0_n = 0 then nI ((ef65) (r0_n)) else if w0_n = 1 then (sf65) ((ef65) (r0_n)) else nI ((bf102) ((ef65) (r0_n))) := by first | exact h9 | (rw [h9]; exact rfl)
                  rw [hS9] at hX
                  replace hX : HH G A s.heap (wX G ad (u_listed (u_ends (u_begAt (u_slipsAt (u_keys (u_cols (S) (cf65)) (kf102)) (sf65)) (bf102)) (ef65)) (cS (selX q0 S) (st_len (x_now S) + 1)))) H locs := hX
                  refine r_ireturn hC hr hlk hX dX7_end_115 ?_
                  obtain ⟨hs1, hs2, hs3⟩ := LR_at hLR65 (show r0_n < _ by omega)
                  refine Or.inr ⟨q0, hP0, Or.inr ⟨r0_n, w0_n, rfl, by omega, rfl, by omega, ⟨rfl, rfl, rfl, rfl, rfl, rfl, rfl, rfl, rfl, rfl, rfl⟩, Or.inr ⟨by rw [selA_f c36]; omega, ef65, by rw [selA_f c36]; exact hLR65, ?_⟩⟩⟩
                  exact endV_eq (fun _ => hsX65 (by omega) (hs2)) (fun z1 z2 => by first | exact (hbf102 _ (by omega)) | (exfalso; omega) | (exfalso; rw [c36] at c89; exact absurd c89 (by decide)))
            · skip
              refine lv_bipush (v := (-5)) hC.1 hC.2.1 dX7_end_79 (by decide +kernel) ?_
              refine r_ireturn hC hr hlk hX dX7_end_81 ?_
              refine Or.inr ⟨q0, hP0, Or.inr ⟨r0_n, w0_n, rfl, by omega, rfl, by omega, ⟨rfl, rfl, rfl, rfl, rfl, rfl, rfl, rfl, rfl, rfl, rfl⟩, Or.inl ⟨by rw [selA_f c36]; omega, rfl⟩⟩⟩
          · skip
            refine lv_aload_n hC.1 hC.2.1 dX7_end_39 rfl (lv_at hl 1 rfl) ?_
            refine g_x_search hC fi_X7_end_X7 hK hX (wd9 hC 2 rfl) dX7_end_40 ?_
            refine lv_aload_n hC.1 hC.2.1 dX7_end_43 rfl (lv_at hl 1 rfl) ?_
            refine g_x_now hC fi_X7_end_X7 hK hX (wd9 hC 1 rfl) dX7_end_44 ?_
            refine lv_aload hC.1 hC.2.1 dX7_end_47 (lv_at hl 0 rfl) ?_
            refine cv_V (As := [.ref (ad 0), .ref (pd_a q0)]) (rest := []) hC hK hA hX (c_X4_findAlone l G ad (S) q0 _ hq_q0 hm0 hTm hT hTn) (cwV 2 hC.2.2.2.2 gX7_end_X4_findAlone rfl rfl rfl hd_X4_findAlone ⟨Nat.le_of_ble_eq_true rfl, Nat.le_of_ble_eq_true rfl⟩) (ci := 4) (q := (RX4, TX4, 8)) rfl (q0 := 24) rfl dX7_end_49 rfl hl.1 rfl (Nat.le_of_ble_eq_true rfl) ⟨(Nat.zero_le _), (Nat.zero_le _)⟩ (fun S9 H locs hp9 hX => ?_)
            obtain ⟨cf49, kf49, sf49, bf49, ef49, hS9, hLR49, hsf49, hbf49⟩ := hp9
            rw [hS9] at hX
            replace hLR49 : LR ef49 (alX q0 S) (st_len (x_now S) + 1) := hLR49
            replace hsf49 : ∀ e, e ≤ st_len (x_now S) → sf49 e = slipV (dX q0 S e) (st_most (x_now S)) := hsf49
            replace hbf49 : ∀ e, e ≤ st_len (x_now S) → bf49 e = bX q0 S e := hbf49
            replace hX : HH G A s.heap (wX G ad (u_listed (u_ends (u_begAt (u_slipsAt (u_keys (u_cols (S) (cf49)) (kf49)) (sf49)) (bf49)) (ef49)) (cS (alX q0 S) (st_len (x_now S) + 1)))) H locs := hX
            have hcl49 := cS_le (alX q0 S) (st_len (x_now S) + 1)
            have hsX49 := @sf_sel q0 S sf49 hsf49
            refine lv_goto (tgt := 68) hC.1 hC.2.1 dX7_end_52 (by decide) ?_
            refine lv_iload_n hC.1 hC.2.1 dX7_end_68 rfl (lv_at hl 3 rfl) ?_
            refine lv_aload_n hC.1 hC.2.1 dX7_end_69 rfl (lv_at hl 1 rfl) ?_
            refine g_x_search hC fi_X7_end_X7 hK hX (wd9 hC 2 rfl) dX7_end_70 ?_
            refine gN_search_listed hC fi_X7_end_X4 hK hX (hnf hK 7 rfl) dX7_end_73 (v := cS (alX q0 S) (st_len (x_now S) + 1)) rfl ?_
            refine n_icmp_lt hC (a := r0_n) (b := cS (alX q0 S) (st_len (x_now S) + 1)) (tgt := 82) dX7_end_76 (by decide) (by omega) (by omega) (fun c76 => ?_) (fun c76 => ?_)
            · skip
              refine lv_iload hC.1 hC.2.1 dX7_end_82 (lv_at hl 5 rfl) ?_
              refine lv_iconst (v := nI (2)) hC.1 hC.2.1 dX7_end_84 rfl ?_
              refine n_icmp_ne hC (a := w0_n) (b := 2) (tgt := 105) dX7_end_85 (by decide) (by omega) (by decide) (fun c85 => ?_) (fun c85 => ?_)
              · skip
                refine lv_aload_n hC.1 hC.2.1 dX7_end_105 rfl (lv_at hl 1 rfl) ?_
                refine g_x_search hC fi_X7_end_X7 hK hX (wd9 hC 2 rfl) dX7_end_106 ?_
                refine lv_iload_n hC.1 hC.2.1 dX7_end_109 rfl (lv_at hl 3 rfl) ?_
                refine lv_iload hC.1 hC.2.1 dX7_end_110 (lv_at hl 5 rfl) ?_
                refine cv_I (As := [.int (nI (r0_n)), .int (nI (w0_n))]) (rest := []) hC hK hA hX (c_X4_tell l G ad (u_listed (u_ends (u_begAt (u_slipsAt (u_keys (u_cols (S) (cf49)) (kf49)) (sf49)) (bf49)) (ef49)) (cS (alX q0 S) (st_len (x_now S) + 1))) (r0_n) (w0_n) (by first | exact (show r0_n < cS (alX q0 S) (st_len (x_now S) + 1) from by omega) | exact (show r0_n < cS (selX q0 S) (st_len (x_now S) + 1) from by omega)) (by omega) ((by first | exact ⟨show cS (alX q0 S) (st_len (x_now S) + 1) ≤ 121 from by omega, show ef49 r0_n ≤ 120 from by have := (LR_at hLR49 (show r0_n < _ by omega)).1; omega⟩ | exact ⟨show cS (selX q0 S) (st_len (x_now S) + 1) ≤ 121 from by omega, show ef65 r0_n ≤ 120 from by have := (LR_at hLR65 (show r0_n < _ by omega)).1; omega⟩))) (cwV 2 hC.2.2.2.2 gX7_end_X4_tell rfl rfl rfl hd_X4_tell ⟨Nat.le_of_ble_eq_true rfl, Nat.le_of_ble_eq_true rfl⟩) (ci := 4) (q := (RX4, TX4, 8)) rfl (q0 := 24) rfl dX7_end_112 rfl hl.1 rfl (Nat.le_of_ble_eq_true rfl) ⟨(Nat.zero_le _), (Nat.zero_le _)⟩ (fun r9 S9 H locs hp9 hX => ?_)
                obtain ⟨h9, hS9⟩ := hp9
                obtain rfl : r9 = if w0_n = 0 then nI ((ef49) (r0_n)) else if w0_n = 1 then (sf49) ((ef49) (r0_n)) else nI ((bf49) ((ef49) (r0_n))) := by first | exact h9 | (rw [h9]; exact rfl)
                rw [hS9] at hX
                replace hX : HH G A s.heap (wX G ad (u_listed (u_ends (u_begAt (u_slipsAt (u_keys (u_cols (S) (cf49)) (kf49)) (sf49)) (bf49)) (ef49)) (cS (alX q0 S) (st_len (x_now S) + 1)))) H locs := hX
                refine r_ireturn hC hr hlk hX dX7_end_115 ?_
                obtain ⟨hs1, hs2, hs3⟩ := LR_at hLR49 (show r0_n < _ by omega)
                refine Or.inr ⟨q0, hP0, Or.inr ⟨r0_n, w0_n, rfl, by omega, rfl, by omega, ⟨rfl, rfl, rfl, rfl, rfl, rfl, rfl, rfl, rfl, rfl, rfl⟩, Or.inr ⟨by rw [selA_t c36]; omega, ef49, by rw [selA_t c36]; exact hLR49, ?_⟩⟩⟩
                exact endV_eq (fun _ => hsX49 (by omega) (alE_sub hs2)) (fun z1 z2 => by first | exact (hbf49 _ (by omega)) | (exfalso; omega) | (exfalso; rw [c36] at c89; exact absurd c89 (by decide)))
              · skip
                refine lv_iload_n hC.1 hC.2.1 dX7_end_88 rfl (lv_at hl 4 rfl) ?_
                refine b_if_ne hC (b := a0) (tgt := 105) dX7_end_89 (by decide) (fun c89 => ?_) (fun c89 => ?_)
                · skip
                  refine lv_aload_n hC.1 hC.2.1 dX7_end_105 rfl (lv_at hl 1 rfl) ?_
                  refine g_x_search hC fi_X7_end_X7 hK hX (wd9 hC 2 rfl) dX7_end_106 ?_
                  refine lv_iload_n hC.1 hC.2.1 dX7_end_109 rfl (lv_at hl 3 rfl) ?_
                  refine lv_iload hC.1 hC.2.1 dX7_end_110 (lv_at hl 5 rfl) ?_
                  refine cv_I (As := [.int (nI (r0_n)), .int (nI (w0_n))]) (rest := []) hC hK hA hX (c_X4_tell l G ad (u_listed (u_ends (u_begAt (u_slipsAt (u_keys (u_cols (S) (cf49)) (kf49)) (sf49)) (bf49)) (ef49)) (cS (alX q0 S) (st_len (x_now S) + 1))) (r0_n) (w0_n) (by first | exact (show r0_n < cS (alX q0 S) (st_len (x_now S) + 1) from by omega) | exact (show r0_n < cS (selX q0 S) (st_len (x_now S) + 1) from by omega)) (by omega) ((by first | exact ⟨show cS (alX q0 S) (st_len (x_now S) + 1) ≤ 121 from by omega, show ef49 r0_n ≤ 120 from by have := (LR_at hLR49 (show r0_n < _ by omega)).1; omega⟩ | exact ⟨show cS (selX q0 S) (st_len (x_now S) + 1) ≤ 121 from by omega, show ef65 r0_n ≤ 120 from by have := (LR_at hLR65 (show r0_n < _ by omega)).1; omega⟩))) (cwV 2 hC.2.2.2.2 gX7_end_X4_tell rfl rfl rfl hd_X4_tell ⟨Nat.le_of_ble_eq_true rfl, Nat.le_of_ble_eq_true rfl⟩) (ci := 4) (q := (RX4, TX4, 8)) rfl (q0 := 24) rfl dX7_end_112 rfl hl.1 rfl (Nat.le_of_ble_eq_true rfl) ⟨(Nat.zero_le _), (Nat.zero_le _)⟩ (fun r9 S9 H locs hp9 hX => ?_)
                  obtain ⟨h9, hS9⟩ := hp9
                  obtain rfl : r9 = if w0_n = 0 then nI ((ef49) (r0_n)) else if w0_n = 1 then (sf49) ((ef49) (r0_n)) else nI ((bf49) ((ef49) (r0_n))) := by first | exact h9 | (rw [h9]; exact rfl)
                  rw [hS9] at hX
                  replace hX : HH G A s.heap (wX G ad (u_listed (u_ends (u_begAt (u_slipsAt (u_keys (u_cols (S) (cf49)) (kf49)) (sf49)) (bf49)) (ef49)) (cS (alX q0 S) (st_len (x_now S) + 1)))) H locs := hX
                  refine r_ireturn hC hr hlk hX dX7_end_115 ?_
                  obtain ⟨hs1, hs2, hs3⟩ := LR_at hLR49 (show r0_n < _ by omega)
                  refine Or.inr ⟨q0, hP0, Or.inr ⟨r0_n, w0_n, rfl, by omega, rfl, by omega, ⟨rfl, rfl, rfl, rfl, rfl, rfl, rfl, rfl, rfl, rfl, rfl⟩, Or.inr ⟨by rw [selA_t c36]; omega, ef49, by rw [selA_t c36]; exact hLR49, ?_⟩⟩⟩
                  exact endV_eq (fun _ => hsX49 (by omega) (alE_sub hs2)) (fun z1 z2 => by first | exact (hbf49 _ (by omega)) | (exfalso; omega) | (exfalso; rw [c36] at c89; exact absurd c89 (by decide)))
                · skip
                  refine lv_aload_n hC.1 hC.2.1 dX7_end_92 rfl (lv_at hl 1 rfl) ?_
                  refine g_x_search hC fi_X7_end_X7 hK hX (wd9 hC 2 rfl) dX7_end_93 ?_
                  refine lv_aload_n hC.1 hC.2.1 dX7_end_96 rfl (lv_at hl 1 rfl) ?_
                  refine g_x_now hC fi_X7_end_X7 hK hX (wd9 hC 1 rfl) dX7_end_97 ?_
                  refine lv_aload hC.1 hC.2.1 dX7_end_100 (lv_at hl 0 rfl) ?_
                  refine cv_V (As := [.ref (ad 0), .ref (pd_a q0)]) (rest := []) hC hK hA hX (c_X4_findBeginnings l G ad (u_listed (u_ends (u_begAt (u_slipsAt (u_keys (u_cols (S) (cf49)) (kf49)) (sf49)) (bf49)) (ef49)) (cS (alX q0 S) (st_len (x_now S) + 1))) q0 _ hq_q0 hm0 hT hTn) (cwV 2 hC.2.2.2.2 gX7_end_X4_findBeginnings rfl rfl rfl hd_X4_findBeginnings ⟨Nat.le_of_ble_eq_true rfl, Nat.le_of_ble_eq_true rfl⟩) (ci := 4) (q := (RX4, TX4, 8)) rfl (q0 := 24) rfl dX7_end_102 rfl hl.1 rfl (Nat.le_of_ble_eq_true rfl) ⟨(Nat.zero_le _), (Nat.zero_le _)⟩ (fun S9 H locs hp9 hX => ?_)
                  obtain ⟨kf102, bf102, hS9, hbf102⟩ := hp9
                  rw [hS9] at hX
                  replace hbf102 : ∀ e, e ≤ st_len (x_now S) → bf102 e = bX q0 S e := hbf102
                  replace hX : HH G A s.heap (wX G ad (u_listed (u_ends (u_begAt (u_slipsAt (u_keys (u_cols (S) (cf49)) (kf102)) (sf49)) (bf102)) (ef49)) (cS (alX q0 S) (st_len (x_now S) + 1)))) H locs := hX
                  refine lv_aload_n hC.1 hC.2.1 dX7_end_105 rfl (lv_at hl 1 rfl) ?_
                  refine g_x_search hC fi_X7_end_X7 hK hX (wd9 hC 2 rfl) dX7_end_106 ?_
                  refine lv_iload_n hC.1 hC.2.1 dX7_end_109 rfl (lv_at hl 3 rfl) ?_
                  refine lv_iload hC.1 hC.2.1 dX7_end_110 (lv_at hl 5 rfl) ?_
                  refine cv_I (As := [.int (nI (r0_n)), .int (nI (w0_n))]) (rest := []) hC hK hA hX (c_X4_tell l G ad (u_listed (u_ends (u_begAt (u_slipsAt (u_keys (u_cols (S) (cf49)) (kf102)) (sf49)) (bf102)) (ef49)) (cS (alX q0 S) (st_len (x_now S) + 1))) (r0_n) (w0_n) (by first | exact (show r0_n < cS (alX q0 S) (st_len (x_now S) + 1) from by omega) | exact (show r0_n < cS (selX q0 S) (st_len (x_now S) + 1) from by omega)) (by omega) ((by first | exact ⟨show cS (alX q0 S) (st_len (x_now S) + 1) ≤ 121 from by omega, show ef49 r0_n ≤ 120 from by have := (LR_at hLR49 (show r0_n < _ by omega)).1; omega⟩ | exact ⟨show cS (selX q0 S) (st_len (x_now S) + 1) ≤ 121 from by omega, show ef65 r0_n ≤ 120 from by have := (LR_at hLR65 (show r0_n < _ by omega)).1; omega⟩))) (cwV 2 hC.2.2.2.2 gX7_end_X4_tell rfl rfl rfl hd_X4_tell ⟨Nat.le_of_ble_eq_true rfl, Nat.le_of_ble_eq_true rfl⟩) (ci := 4) (q := (RX4, TX4, 8)) rfl (q0 := 24) rfl dX7_end_112 rfl hl.1 rfl (Nat.le_of_ble_eq_true rfl) ⟨(Nat.zero_le _), (Nat.zero_le _)⟩ (fun r9 S9 H locs hp9 hX => ?_)
                  obtain ⟨h9, hS9⟩ := hp9
                  obtain rfl : r9 = if w0_n = 0 then nI ((ef49) (r0_n)) else if w0_n = 1 then (sf49) ((ef49) (r0_n)) else nI ((bf102) ((ef49) (r0_n))) := by first | exact h9 | (rw [h9]; exact rfl)
                  rw [hS9] at hX
                  replace hX : HH G A s.heap (wX G ad (u_listed (u_ends (u_begAt (u_slipsAt (u_keys (u_cols (S) (cf49)) (kf102)) (sf49)) (bf102)) (ef49)) (cS (alX q0 S) (st_len (x_now S) + 1)))) H locs := hX
                  refine r_ireturn hC hr hlk hX dX7_end_115 ?_
                  obtain ⟨hs1, hs2, hs3⟩ := LR_at hLR49 (show r0_n < _ by omega)
                  refine Or.inr ⟨q0, hP0, Or.inr ⟨r0_n, w0_n, rfl, by omega, rfl, by omega, ⟨rfl, rfl, rfl, rfl, rfl, rfl, rfl, rfl, rfl, rfl, rfl⟩, Or.inr ⟨by rw [selA_t c36]; omega, ef49, by rw [selA_t c36]; exact hLR49, ?_⟩⟩⟩
                  exact endV_eq (fun _ => hsX49 (by omega) (alE_sub hs2)) (fun z1 z2 => by first | exact (hbf49 _ (by omega)) | (exfalso; omega) | (exfalso; rw [c36] at c89; exact absurd c89 (by decide)))
            · skip
              refine lv_bipush (v := (-5)) hC.1 hC.2.1 dX7_end_79 (by decide +kernel) ?_
              refine r_ireturn hC hr hlk hX dX7_end_81 ?_
              refine Or.inr ⟨q0, hP0, Or.inr ⟨r0_n, w0_n, rfl, by omega, rfl, by omega, ⟨rfl, rfl, rfl, rfl, rfl, rfl, rfl, rfl, rfl, rfl, rfl⟩, Or.inl ⟨by rw [selA_t c36]; omega, rfl⟩⟩⟩
        · skip
          refine lv_bipush (v := (-2)) hC.1 hC.2.1 dX7_end_32 (by decide +kernel) ?_
          refine r_ireturn hC hr hlk hX dX7_end_34 ?_
          first | exact Or.inr ⟨q0, hP0, Or.inl ⟨Or.inl c18, rfl, rfl⟩⟩ | exact Or.inr ⟨q0, hP0, Or.inl ⟨Or.inr (Or.inl c23), rfl, rfl⟩⟩ | exact Or.inr ⟨q0, hP0, Or.inl ⟨Or.inr (Or.inr ((nI_ltI (by omega) (by omega)).mpr (by omega))), rfl, rfl⟩⟩
  · obtain rfl : r9 = none := hr9
    have hP0 : noP S p0 := hn9
    refine lv_astoreN (lv' := [(5, .null), (0, .ref (ad 34)), (1, .int (p0)), (2, .int (r0)), (3, .int (bI (a0))), (4, .int (w0))]) hC.1 hC.2.1 dX7_end_8 hl (by decide) rfl (fun ls hl => ?_)
    refine lv_aloadN hC.1 hC.2.1 dX7_end_10 (lv_at hl 0 rfl) ?_
    refine lv_ifnonnullN hC.1 hC.2.1 dX7_end_12 ?_
    refine lv_iconst (v := (-1)) hC.1 hC.2.1 dX7_end_15 rfl ?_
    refine r_ireturn hC hr hlk hX dX7_end_16 ?_
    exact Or.inl ⟨hP0, rfl, rfl⟩
theorem fi_X7_densityOf_X7 : ∀ w ∈ wsX70, w ∈ wsX7_densityOf := by decide +kernel
theorem fi_X7_densityOf_X5 : ∀ w ∈ wsX50, w ∈ wsX7_densityOf := by decide +kernel
theorem hd_X4_sumOfShares : yX4_sumOfShares.cls = RX4 ∧ yX4_sumOfShares.cls ≠ "java/lang/invoke/MethodHandle" ∧ yX4_sumOfShares.cls ≠ "java/lang/invoke/VarHandle" ∧ (parseMethodDescriptor yX4_sumOfShares.desc).map (fun d => d.parameters.length) = some 0 := by decide +kernel
set_option maxHeartbeats 4000000 in
set_option maxRecDepth 100000 in
theorem c_X7_densityOf (l : Launch) (G : GX) (ad : Nat → Nat) (S : XS) (hok : okX S) (q0 : PatD) (jq0 : Nat) (hq_q0 : (x_pool S)[jq0]? = some q0) : CtD l yX7_densityOf wsX7_densityOf { frames := 4, cells := 0, slots := 0, locals := 108 } G (wX G ad) (S) [.ref (ad 34), .ref (pd_a q0)] (fun r S' => scrX S S' ∧ ∃ ef, LR ef (selX q0 S) (st_len (x_now S) + 1) ∧ r = FP.ddiv (shS (gX q0 S ef) (cS (selX q0 S) (st_len (x_now S) + 1))) (FP.i2d (nI (st_len (x_now S) + 1)))) 0 0 := by
  refine CtD.of (cc := cX7_densityOf) (maxL := 3) (ret := some .double) (by decide +kernel) rfl (Nat.le_of_ble_eq_true rfl) ?_
  intro p e s m args below meth c ls A hC hr hlk hin hK hA hX hl
  have hl : lv_has ls 3 [(0, .ref (ad 34)), (1, .ref (pd_a q0))] := hl
  have hokk := hok
  obtain ⟨hok1, hok2, hok3, hok4, hok5, hok6, hok7, hok8, hok9, hokA, hokB⟩ := hok
  obtain ⟨hT, hTn, hTp, hTm, hTi, hTj⟩ := hok1
  obtain ⟨hm1, hm0, hb0, hpt0⟩ := hokB q0 jq0 hq_q0
  refine lv_aload_n hC.1 hC.2.1 dX7_densityOf_0 rfl (lv_at hl 0 rfl) ?_
  refine g_x_search hC fi_X7_densityOf_X7 hK hX (wd9 hC 1 rfl) dX7_densityOf_1 ?_
  refine lv_aload_n hC.1 hC.2.1 dX7_densityOf_4 rfl (lv_at hl 0 rfl) ?_
  refine g_x_now hC fi_X7_densityOf_X7 hK hX (wd9 hC 2 rfl) dX7_densityOf_5 ?_
  refine lv_aload_n hC.1 hC.2.1 dX7_densityOf_8 rfl (lv_at hl 1 rfl) ?_
  refine cv_V (As := [.ref (ad 0), .ref (pd_a q0)]) (rest := []) hC hK hA hX (c_X4_findEnds l G ad (S) q0 _ hq_q0 hm0 hTm hT hTn) (cwV 2 hC.2.2.2.2 gX7_densityOf_X4_findEnds rfl rfl rfl hd_X4_findEnds ⟨Nat.le_of_ble_eq_true rfl, Nat.le_of_ble_eq_true rfl⟩) (ci := 4) (q := (RX4, TX4, 8)) rfl (q0 := 24) rfl dX7_densityOf_9 rfl hl.1 rfl (Nat.le_of_ble_eq_true rfl) ⟨(Nat.zero_le _), (Nat.zero_le _)⟩ (fun S9 H locs hp9 hX => ?_)
  obtain ⟨cf9, sf9, ef9, hS9, hLR9, hsf9⟩ := hp9
  rw [hS9] at hX
  replace hsf9 : ∀ e, e ≤ st_len (x_now S) → sf9 e = slipV (dX q0 S e) (st_most (x_now S)) := hsf9
  replace hLR9 : LR ef9 (selX q0 S) (st_len (x_now S) + 1) := hLR9
  replace hX : HH G A s.heap (wX G ad (u_listed (u_ends (u_slipsAt (u_cols (S) (cf9)) (sf9)) (ef9)) (cS (selX q0 S) (st_len (x_now S) + 1)))) H locs := hX
  have hcl9 := cS_le (selX q0 S) (st_len (x_now S) + 1)
  have hsX9 := @sf_sel q0 S sf9 hsf9
  have hn9 : cS (selX q0 S) (st_len (x_now S) + 1) ≤ 121 := by omega
  have he9 : ∀ r, r < cS (selX q0 S) (st_len (x_now S) + 1) → ef9 r ≤ 120 := fun r hr => by have := (LR_at hLR9 hr).1; omega
  have hg9 : ∀ r, r < cS (selX q0 S) (st_len (x_now S) + 1) → sf9 (ef9 r) = nI (gX q0 S ef9 r) := fun r hr => ends_g hTm hLR9 hsf9 hr
  have hg19 : ∀ r, gX q0 S ef9 r ≤ 200 := fun r => Nat.le_trans (gX_4 _ _ _ _) (by decide)
  refine lv_aload_n hC.1 hC.2.1 dX7_densityOf_12 rfl (lv_at hl 0 rfl) ?_
  refine g_x_now hC fi_X7_densityOf_X7 hK hX (wd9 hC 2 rfl) dX7_densityOf_13 ?_
  refine gN_len (k := 0) (by decide) hC fi_X7_densityOf_X5 hK hX (hnf hK 5 rfl) dX7_densityOf_16 (v := st_len (x_now S)) rfl ?_
  refine lv_iconst (v := nI (1)) hC.1 hC.2.1 dX7_densityOf_19 rfl ?_
  refine n_add hC (a := st_len (x_now S)) (b := 1) dX7_densityOf_20 ?_
  refine lv_istore_n (lv' := [(2, .int (nI ((st_len (x_now S)) + (1)))), (0, .ref (ad 34)), (1, .ref (pd_a q0))]) hC.1 hC.2.1 dX7_densityOf_21 rfl hl (by decide) rfl (fun ls hl => ?_)
  refine lv_iload_n hC.1 hC.2.1 dX7_densityOf_22 rfl (lv_at hl 0 rfl) ?_
  refine n_if_le hC (a := (st_len (x_now S)) + (1)) (tgt := 39) dX7_densityOf_23 (by decide) (by omega) (fun c23 => ?_) (fun c23 => ?_)
  · exfalso; omega
  · skip
    refine lv_aload_n hC.1 hC.2.1 dX7_densityOf_26 rfl (lv_at hl 1 rfl) ?_
    refine g_x_search hC fi_X7_densityOf_X7 hK hX (wd9 hC 1 rfl) dX7_densityOf_27 ?_
    refine cv_D (As := []) (rest := []) hC hK hA hX (c_X4_sumOfShares l G ad (u_listed (u_ends (u_slipsAt (u_cols (S) (cf9)) (sf9)) (ef9)) (cS (selX q0 S) (st_len (x_now S) + 1))) (gX q0 S ef9) hn9 he9 hg9 hg19 (gX_4 q0 S ef9)) (cwV 0 hC.2.2.2.2 gX7_densityOf_X4_sumOfShares rfl rfl rfl hd_X4_sumOfShares ⟨Nat.le_of_ble_eq_true rfl, Nat.le_of_ble_eq_true rfl⟩) (ci := 4) (q := (RX4, TX4, 8)) rfl (q0 := 24) rfl dX7_densityOf_30 rfl hl.1 rfl (Nat.le_of_ble_eq_true rfl) ⟨(Nat.zero_le _), (Nat.zero_le _)⟩ (fun r9 S9 H locs hp9 hX => ?_)
    obtain ⟨rfl, hS9⟩ := hp9
    rw [hS9] at hX
    replace hX : HH G A s.heap (wX G ad (u_listed (u_ends (u_slipsAt (u_cols (S) (cf9)) (sf9)) (ef9)) (cS (selX q0 S) (st_len (x_now S) + 1)))) H locs := hX
    refine lv_iload_n hC.1 hC.2.1 dX7_densityOf_33 rfl (lv_at hl 0 rfl) ?_
    refine lv_i2d hC.1 hC.2.1 dX7_densityOf_34 ?_
    refine lv_ddiv hC.1 hC.2.1 dX7_densityOf_35 (vf64_of (FP.Core.ddiv_out (shS_ok (gX_4 q0 S ef9) _) (FP.Core.i2d_fin _) (i2d_nz (by omega) (by omega)))) ?_
    refine lv_goto (tgt := 40) hC.1 hC.2.1 dX7_densityOf_36 (by decide) ?_
    refine r_dreturn hC hr hlk hX dX7_densityOf_40 ?_
    exact ⟨⟨rfl, rfl, rfl, rfl, rfl, rfl, rfl, rfl, rfl, rfl, rfl⟩, ef9, hLR9, rfl⟩
theorem fi_X7_density_X7 : ∀ w ∈ wsX70, w ∈ wsX7_density := by decide +kernel
theorem hd_X7_densityOf : yX7_densityOf.cls = RX7 ∧ yX7_densityOf.cls ≠ "java/lang/invoke/MethodHandle" ∧ yX7_densityOf.cls ≠ "java/lang/invoke/VarHandle" ∧ (parseMethodDescriptor yX7_densityOf.desc).map (fun d => d.parameters.length) = some 1 := by decide +kernel
set_option maxHeartbeats 4000000 in
set_option maxRecDepth 100000 in
theorem c_X7_density (l : Launch) (G : GX) (ad : Nat → Nat) (S : XS) (hok : okX S) (p0 : Int32) : CtD l yX7_density wsX7_density { frames := 5, cells := 0, slots := 0, locals := 130 } G (wX G ad) (S) [.ref (ad 34), .int (p0)] (fun r S' => (noP S p0 ∧ r = 13830554455654793216 ∧ S' = S) ∨ ∃ q, hasP S p0 q ∧ scrX S S' ∧ ∃ ef, LR ef (selX q S) (st_len (x_now S) + 1) ∧ r = FP.ddiv (shS (gX q S ef) (cS (selX q S) (st_len (x_now S) + 1))) (FP.i2d (nI (st_len (x_now S) + 1)))) 0 0 := by
  refine CtD.of (cc := cX7_density) (maxL := 3) (ret := some .double) (by decide +kernel) rfl (Nat.le_of_ble_eq_true rfl) ?_
  intro p e s m args below meth c ls A hC hr hlk hin hK hA hX hl
  have hl : lv_has ls 3 [(0, .ref (ad 34)), (1, .int (p0))] := hl
  have hokk := hok
  obtain ⟨hok1, hok2, hok3, hok4, hok5, hok6, hok7, hok8, hok9, hokA, hokB⟩ := hok
  obtain ⟨hT, hTn, hTp, hTm, hTi, hTj⟩ := hok1
  refine lv_aload_n hC.1 hC.2.1 dX7_density_0 rfl (lv_at hl 0 rfl) ?_
  refine g_x_now hC fi_X7_density_X7 hK hX (wd9 hC 1 rfl) dX7_density_1 ?_
  refine lv_iload_n hC.1 hC.2.1 dX7_density_4 rfl (lv_at hl 1 rfl) ?_
  refine cv_Q (As := [.int (p0)]) (rest := []) hC hK hA hX (c_X5_patternOrNull l G ad (S) (p0) hTp) (cwV 1 hC.2.2.2.2 gX7_density_X5_patternOrNull rfl rfl rfl hd_X5_patternOrNull ⟨Nat.le_of_ble_eq_true rfl, Nat.le_of_ble_eq_true rfl⟩) (ci := 5) (q := (RX5, TX5, 5)) rfl (q0 := 0) rfl dX7_density_5 rfl hl.1 rfl (Nat.le_of_ble_eq_true rfl) ⟨(Nat.zero_le _), (Nat.zero_le _)⟩ (fun r9 S9 H locs hp9 hX => ?_)
  obtain ⟨hr9, hS9⟩ := hp9
  rw [hS9] at hX
  replace hr9 : ((∃ j, p0 = nI j ∧ j < st_pcnt (x_now S) ∧ r9 = st_pats (x_now S) j) ∨ ((p0 < 0 ∨ nI (st_pcnt (x_now S)) ≤ p0) ∧ r9 = none)) := hr9
  replace hX : HH G A s.heap (wX G ad (S)) H locs := hX
  rcases hr9 with ⟨jp9, hjp9, hjc9, hr9⟩ | ⟨hn9, hr9⟩
  · obtain ⟨q0, jq0, hq_q0, hpa9⟩ := hTj jp9 hjc9
    obtain rfl : r9 = some (pd_a q0) := hr9.trans hpa9
    have hP0 : hasP S p0 q0 := ⟨jp9, hjp9, hjc9, hpa9, jq0, hq_q0⟩
    obtain ⟨hm1, hm0, hb0, hpt0⟩ := hokB q0 jq0 hq_q0
    refine lv_astore_n (lv' := [(2, .ref (pd_a q0)), (0, .ref (ad 34)), (1, .int (p0))]) hC.1 hC.2.1 dX7_density_8 rfl hl (by decide) rfl (fun ls hl => ?_)
    refine lv_aload_n hC.1 hC.2.1 dX7_density_9 rfl (lv_at hl 0 rfl) ?_
    refine lv_ifnonnull (tgt := 17) hC.1 hC.2.1 dX7_density_10 (by decide) ?_
    refine lv_aload_n hC.1 hC.2.1 dX7_density_17 rfl (lv_at hl 1 rfl) ?_
    refine lv_aload_n hC.1 hC.2.1 dX7_density_18 rfl (lv_at hl 0 rfl) ?_
    refine cv_D (As := [.ref (pd_a q0)]) (rest := []) hC hK hA hX (c_X7_densityOf l G ad (S) hokk q0 _ hq_q0) (cwV 1 hC.2.2.2.2 gX7_density_X7_densityOf rfl rfl rfl hd_X7_densityOf ⟨Nat.le_of_ble_eq_true rfl, Nat.le_of_ble_eq_true rfl⟩) (ci := 7) (q := (RX7, TX7, 8)) rfl (q0 := 34) rfl dX7_density_19 rfl hl.1 rfl (Nat.le_of_ble_eq_true rfl) ⟨(Nat.zero_le _), (Nat.zero_le _)⟩ (fun r9 S9 H locs hp9 hX => ?_)
    obtain ⟨hscr, ef9, hLR9, hr9⟩ := hp9
    subst hr9
    replace hX : HH G A s.heap (wX G ad (S9)) H locs := hX
    refine r_dreturn hC hr hlk hX dX7_density_22 ?_
    exact Or.inr ⟨q0, hP0, hscr, ef9, hLR9, rfl⟩
  · obtain rfl : r9 = none := hr9
    have hP0 : noP S p0 := hn9
    refine lv_astore_nN (lv' := [(2, .null), (0, .ref (ad 34)), (1, .int (p0))]) hC.1 hC.2.1 dX7_density_8 rfl hl (by decide) rfl (fun ls hl => ?_)
    refine lv_aload_nN hC.1 hC.2.1 dX7_density_9 rfl (lv_at hl 0 rfl) ?_
    refine lv_ifnonnullN hC.1 hC.2.1 dX7_density_10 ?_
    refine lv_ldc2d (v := (13830554455654793216 : UInt64)) hC.1 hC.2.1 hC.2.2.2.1 (wd9 hC 2 rfl) dX7_density_13 ?_
    refine r_dreturn hC hr hlk hX dX7_density_16 ?_
    exact Or.inl ⟨hP0, rfl, rfl⟩
theorem fi_X7_countAllEnds_X7 : ∀ w ∈ wsX70, w ∈ wsX7_countAllEnds := by decide +kernel
theorem fi_X7_countAllEnds_X4 : ∀ w ∈ wsX40, w ∈ wsX7_countAllEnds := by decide +kernel
set_option maxHeartbeats 4000000 in
set_option maxRecDepth 100000 in
theorem c_X7_countAllEnds (l : Launch) (G : GX) (ad : Nat → Nat) (S : XS) (hok : okX S) (hd0 : noDup S) : CtI l yX7_countAllEnds wsX7_countAllEnds { frames := 4, cells := 0, slots := 0, locals := 108 } G (wX G ad) (S) [.ref (ad 34)] (fun r S' => r = nI (sumN (allE S) 6) ∧ scrX S S') 0 0 := by
  refine CtI.of (cc := cX7_countAllEnds) (maxL := 4) (ret := some .int) (by decide +kernel) rfl (Nat.le_of_ble_eq_true rfl) ?_
  intro p e s m args below meth c ls A hC hr hlk hin hK hA hX hl
  have hl : lv_has ls 4 [(0, .ref (ad 34))] := hl
  have hokk := hok
  obtain ⟨hok1, hok2, hok3, hok4, hok5, hok6, hok7, hok8, hok9, hokA, hokB⟩ := hok
  obtain ⟨hT, hTn, hTp, hTm, hTi, hTj⟩ := hok1
  refine lv_iconst (v := nI (0)) hC.1 hC.2.1 dX7_countAllEnds_0 rfl ?_
  refine lv_istore_n (lv' := [(1, .int (nI (0))), (0, .ref (ad 34))]) hC.1 hC.2.1 dX7_countAllEnds_1 rfl hl (by decide) rfl (fun ls hl => ?_)
  refine lv_iconst (v := nI (0)) hC.1 hC.2.1 dX7_countAllEnds_2 rfl ?_
  refine lv_istore_n (lv' := [(2, .int (nI (0))), (1, .int (nI (0))), (0, .ref (ad 34))]) hC.1 hC.2.1 dX7_countAllEnds_3 rfl hl (by decide) rfl (fun ls hl => ?_)
  have loop4 : ∀ (n9 : Nat) (i : Nat) (f1 : Nat → Int64) (f2 : Nat → Int32) (f3 : Nat → Nat) (f4 : Nat), (i ≤ 6) → 6 - i < n9 → ∀ (H : Heap) (locs : List Loc) (ls : Array Slot), HH G A s.heap (wX G ad (u_listed (u_ends (u_slipsAt (u_cols (S) (f1)) (f2)) (f3)) (f4))) H locs → lv_has ls 4 [(2, .int (nI (i))), (1, .int (nI (sumN (allE S) i))), (0, .ref (ad 34))] → W p l e { frames := 4, cells := 0, slots := 0, locals := 108 } s m args below meth c H locs 0 0 (EndI G (wX G ad) A (fun r S' => r = nI (sumN (allE S) 6) ∧ scrX S S') below args s 0 0) (F0 m 4 ls []) := by
    intro n9
    induction n9 with
    | zero => intro i f1 f2 f3 f4 hi hn9; exact absurd hn9 (Nat.not_lt_zero _)
    | succ n9 ih4 =>
      intro i f1 f2 f3 f4 hi hn9 H locs ls hX hl
      refine lv_iload_n hC.1 hC.2.1 dX7_countAllEnds_4 rfl (lv_at hl 0 rfl) ?_
      refine lv_bipush (v := nI (6)) hC.1 hC.2.1 dX7_countAllEnds_5 (by decide +kernel) ?_
      refine n_icmp_ge hC (a := i) (b := 6) (tgt := 51) dX7_countAllEnds_7 (by decide) (by omega) (by decide) (fun c7 => ?_) (fun c7 => ?_)
      · skip
        refine lv_iload_n hC.1 hC.2.1 dX7_countAllEnds_51 rfl (lv_at hl 1 rfl) ?_
        refine r_ireturn hC hr hlk hX dX7_countAllEnds_52 ?_
        obtain rfl : i = 6 := by omega
        exact ⟨rfl, ⟨rfl, rfl, rfl, rfl, rfl, rfl, rfl, rfl, rfl, rfl, rfl⟩⟩
      · skip
        refine lv_aload_n hC.1 hC.2.1 dX7_countAllEnds_10 rfl (lv_at hl 2 rfl) ?_
        refine g_x_now hC fi_X7_countAllEnds_X7 hK hX (wd9 hC 1 rfl) dX7_countAllEnds_11 ?_
        refine lv_iload_n hC.1 hC.2.1 dX7_countAllEnds_14 rfl (lv_at hl 0 rfl) ?_
        refine cv_Q (As := [.int (nI (i))]) (rest := []) hC hK hA hX (c_X5_patternOrNull l G ad (u_listed (u_ends (u_slipsAt (u_cols (S) (f1)) (f2)) (f3)) (f4)) (nI (i)) hTp) (cwV 1 hC.2.2.2.2 gX7_countAllEnds_X5_patternOrNull rfl rfl rfl hd_X5_patternOrNull ⟨Nat.le_of_ble_eq_true rfl, Nat.le_of_ble_eq_true rfl⟩) (ci := 5) (q := (RX5, TX5, 5)) rfl (q0 := 0) rfl dX7_countAllEnds_15 rfl hl.1 rfl (Nat.le_of_ble_eq_true rfl) ⟨(Nat.zero_le _), (Nat.zero_le _)⟩ (fun r9 S9 H locs hp9 hX => ?_)
        obtain ⟨hr9, hS9⟩ := hp9
        rw [hS9] at hX
        replace hr9 : ((∃ j, nI (i) = nI j ∧ j < st_pcnt (x_now S) ∧ r9 = st_pats (x_now S) j) ∨ ((nI (i) < 0 ∨ nI (st_pcnt (x_now S)) ≤ nI (i)) ∧ r9 = none)) := hr9
        replace hX : HH G A s.heap (wX G ad (u_listed (u_ends (u_slipsAt (u_cols (S) (f1)) (f2)) (f3)) (f4))) H locs := hX
        rcases hr9 with ⟨jp9, hjp9, hjc9, hr9⟩ | ⟨hn9, hr9⟩
        · obtain rfl : i = jp9 := nI_inj9 (by omega) (by omega) hjp9
          obtain ⟨q0, jq0, hq_q0, hpa9⟩ := hTj i hjc9
          obtain rfl : r9 = some (pd_a q0) := hr9.trans hpa9
          have hpe9 := patOf_eq hd0 hq_q0 hpa9
          obtain ⟨hm1, hm0, hb0, hpt0⟩ := hokB _ jq0 hq_q0
          refine lv_astore_n (lv' := [(3, .ref (pd_a q0)), (2, .int (nI (i))), (1, .int (nI (sumN (allE S) i))), (0, .ref (ad 34))]) hC.1 hC.2.1 dX7_countAllEnds_18 rfl hl (by decide) rfl (fun ls hl => ?_)
          refine lv_aload_n hC.1 hC.2.1 dX7_countAllEnds_19 rfl (lv_at hl 0 rfl) ?_
          refine lv_ifnull hC.1 hC.2.1 dX7_countAllEnds_20 ?_
          refine lv_aload_n hC.1 hC.2.1 dX7_countAllEnds_23 rfl (lv_at hl 3 rfl) ?_
          refine g_x_search hC fi_X7_countAllEnds_X7 hK hX (wd9 hC 2 rfl) dX7_countAllEnds_24 ?_
          refine lv_aload_n hC.1 hC.2.1 dX7_countAllEnds_27 rfl (lv_at hl 3 rfl) ?_
          refine g_x_now hC fi_X7_countAllEnds_X7 hK hX (wd9 hC 1 rfl) dX7_countAllEnds_28 ?_
          refine lv_aload_n hC.1 hC.2.1 dX7_countAllEnds_31 rfl (lv_at hl 0 rfl) ?_
          refine cv_V (As := [.ref (ad 0), .ref (pd_a q0)]) (rest := []) hC hK hA hX (c_X4_findEnds l G ad (u_listed (u_ends (u_slipsAt (u_cols (S) (f1)) (f2)) (f3)) (f4)) q0 _ hq_q0 hm0 hTm hT hTn) (cwV 2 hC.2.2.2.2 gX7_countAllEnds_X4_findEnds rfl rfl rfl hd_X4_findEnds ⟨Nat.le_of_ble_eq_true rfl, Nat.le_of_ble_eq_true rfl⟩) (ci := 4) (q := (RX4, TX4, 8)) rfl (q0 := 24) rfl dX7_countAllEnds_32 rfl hl.1 rfl (Nat.le_of_ble_eq_true rfl) ⟨(Nat.zero_le _), (Nat.zero_le _)⟩ (fun S9 H locs hp9 hX => ?_)
          obtain ⟨cf32, sf32, ef32, hS9, hLR32, hsf32⟩ := hp9
          rw [hS9] at hX
          replace hsf32 : ∀ e, e ≤ st_len (x_now S) → sf32 e = slipV (dX q0 S e) (st_most (x_now S)) := hsf32
          replace hLR32 : LR ef32 (selX q0 S) (st_len (x_now S) + 1) := hLR32
          replace hX : HH G A s.heap (wX G ad (u_listed (u_ends (u_slipsAt (u_cols (S) (cf32)) (sf32)) (ef32)) (cS (selX q0 S) (st_len (x_now S) + 1)))) H locs := hX
          have hcl32 := cS_le (selX q0 S) (st_len (x_now S) + 1)
          have hsX32 := @sf_sel q0 S sf32 hsf32
          have hn9 : cS (selX q0 S) (st_len (x_now S) + 1) ≤ 121 := by omega
          have he9 : ∀ r, r < cS (selX q0 S) (st_len (x_now S) + 1) → ef32 r ≤ 120 := fun r hr => by have := (LR_at hLR32 hr).1; omega
          have hg9 : ∀ r, r < cS (selX q0 S) (st_len (x_now S) + 1) → sf32 (ef32 r) = nI (gX q0 S ef32 r) := fun r hr => ends_g hTm hLR32 hsf32 hr
          have hg19 : ∀ r, gX q0 S ef32 r ≤ 200 := fun r => Nat.le_trans (gX_4 _ _ _ _) (by decide)
          refine lv_iload_n hC.1 hC.2.1 dX7_countAllEnds_35 rfl (lv_at hl 2 rfl) ?_
          refine lv_aload_n hC.1 hC.2.1 dX7_countAllEnds_36 rfl (lv_at hl 3 rfl) ?_
          refine g_x_search hC fi_X7_countAllEnds_X7 hK hX (wd9 hC 2 rfl) dX7_countAllEnds_37 ?_
          refine gN_search_listed hC fi_X7_countAllEnds_X4 hK hX (hnf hK 7 rfl) dX7_countAllEnds_40 (v := cS (selX q0 S) (st_len (x_now S) + 1)) rfl ?_
          refine n_add hC (a := sumN (allE S) i) (b := cS (selX q0 S) (st_len (x_now S) + 1)) dX7_countAllEnds_43 ?_
          refine lv_istore_n (lv' := [(1, .int (nI ((sumN (allE S) i) + (cS (selX q0 S) (st_len (x_now S) + 1))))), (3, .ref (pd_a q0)), (2, .int (nI (i))), (0, .ref (ad 34))]) hC.1 hC.2.1 dX7_countAllEnds_44 rfl hl (by decide) rfl (fun ls hl => ?_)
          refine lv_iinc (v := nI (i + 1)) (lv' := [(2, .int (nI (i + 1))), (1, .int (nI ((sumN (allE S) i) + (cS (selX q0 S) (st_len (x_now S) + 1))))), (3, .ref (pd_a q0)), (0, .ref (ad 34))]) hC.1 hC.2.1 dX7_countAllEnds_45 hl (k := 2) rfl (n_inc1 _) (by decide) rfl (fun ls hl => ?_)
          refine lv_goto (tgt := 4) hC.1 hC.2.1 dX7_countAllEnds_48 (by decide) ?_
          refine ih4 (i + 1) (cf32) (sf32) (ef32) (cS (selX q0 S) (st_len (x_now S) + 1)) ?_ ?_ _ _ ls hX (by first | (rw [show sumN (allE S) (i + 1) = sumN (allE S) i + cS (selX q0 S) (st_len (x_now S) + 1) from by (show sumN (allE S) i + allE S i = _); unfold allE; rw [if_pos hjc9, hpe9]; rfl]; exact lv_sub hl [0, 1, 3] rfl) | (rw [show sumN (allE S) (i + 1) = sumN (allE S) i from by (show sumN (allE S) i + allE S i = _); unfold allE; rw [if_neg hjn9]; rfl]; exact lv_sub hl [0, 1, 3] rfl))
          · omega
          · omega
        · obtain rfl : r9 = none := hr9
          have hjn9 : ¬ i < st_pcnt (x_now S) := noP_nat (by omega) (by omega) hn9
          refine lv_astore_nN (lv' := [(3, .null), (2, .int (nI (i))), (1, .int (nI (sumN (allE S) i))), (0, .ref (ad 34))]) hC.1 hC.2.1 dX7_countAllEnds_18 rfl hl (by decide) rfl (fun ls hl => ?_)
          refine lv_aload_nN hC.1 hC.2.1 dX7_countAllEnds_19 rfl (lv_at hl 0 rfl) ?_
          refine lv_ifnullN (tgt := 45) hC.1 hC.2.1 dX7_countAllEnds_20 (by decide) ?_
          refine lv_iinc (v := nI (i + 1)) (lv' := [(2, .int (nI (i + 1))), (3, .null), (1, .int (nI (sumN (allE S) i))), (0, .ref (ad 34))]) hC.1 hC.2.1 dX7_countAllEnds_45 hl (k := 1) rfl (n_inc1 _) (by decide) rfl (fun ls hl => ?_)
          refine lv_goto (tgt := 4) hC.1 hC.2.1 dX7_countAllEnds_48 (by decide) ?_
          refine ih4 (i + 1) (f1) (f2) (f3) (f4) ?_ ?_ _ _ ls hX (by first | (rw [show sumN (allE S) (i + 1) = sumN (allE S) i + cS (selX q0 S) (st_len (x_now S) + 1) from by (show sumN (allE S) i + allE S i = _); unfold allE; rw [if_pos hjc9, hpe9]; rfl]; exact lv_sub hl [0, 2, 3] rfl) | (rw [show sumN (allE S) (i + 1) = sumN (allE S) i from by (show sumN (allE S) i + allE S i = _); unfold allE; rw [if_neg hjn9]; rfl]; exact lv_sub hl [0, 2, 3] rfl))
          · omega
          · omega
  refine loop4 _ (0) (x_cols S) (x_slipsAt S) (x_ends S) (x_listed S) ?_ (Nat.lt_succ_self _) _ _ ls hX (lv_sub hl [0, 1, 2] rfl)
  · omega
theorem fi_X7_countPlacesWithEnds_X7 : ∀ w ∈ wsX70, w ∈ wsX7_countPlacesWithEnds := by decide +kernel
theorem hd_X4_clearMarks : yX4_clearMarks.cls = RX4 ∧ yX4_clearMarks.cls ≠ "java/lang/invoke/MethodHandle" ∧ yX4_clearMarks.cls ≠ "java/lang/invoke/VarHandle" ∧ (parseMethodDescriptor yX4_clearMarks.desc).map (fun d => d.parameters.length) = some 0 := by decide +kernel
theorem hd_X4_countMarks : yX4_countMarks.cls = RX4 ∧ yX4_countMarks.cls ≠ "java/lang/invoke/MethodHandle" ∧ yX4_countMarks.cls ≠ "java/lang/invoke/VarHandle" ∧ (parseMethodDescriptor yX4_countMarks.desc).map (fun d => d.parameters.length) = some 0 := by decide +kernel
theorem hd_X4_markEnds : yX4_markEnds.cls = RX4 ∧ yX4_markEnds.cls ≠ "java/lang/invoke/MethodHandle" ∧ yX4_markEnds.cls ≠ "java/lang/invoke/VarHandle" ∧ (parseMethodDescriptor yX4_markEnds.desc).map (fun d => d.parameters.length) = some 0 := by decide +kernel
set_option maxHeartbeats 4000000 in
set_option maxRecDepth 100000 in
theorem c_X7_countPlacesWithEnds (l : Launch) (G : GX) (ad : Nat → Nat) (S : XS) (hok : okX S) (hd0 : noDup S) : CtI l yX7_countPlacesWithEnds wsX7_countPlacesWithEnds { frames := 4, cells := 0, slots := 0, locals := 108 } G (wX G ad) (S) [.ref (ad 34)] (fun r S' => r = nI (cS (anyE S 6) 121) ∧ scrX S S') 0 0 := by
  refine CtI.of (cc := cX7_countPlacesWithEnds) (maxL := 3) (ret := some .int) (by decide +kernel) rfl (Nat.le_of_ble_eq_true rfl) ?_
  intro p e s m args below meth c ls A hC hr hlk hin hK hA hX hl
  have hl : lv_has ls 3 [(0, .ref (ad 34))] := hl
  have hokk := hok
  obtain ⟨hok1, hok2, hok3, hok4, hok5, hok6, hok7, hok8, hok9, hokA, hokB⟩ := hok
  obtain ⟨hT, hTn, hTp, hTm, hTi, hTj⟩ := hok1
  refine lv_aload_n hC.1 hC.2.1 dX7_countPlacesWithEnds_0 rfl (lv_at hl 0 rfl) ?_
  refine g_x_search hC fi_X7_countPlacesWithEnds_X7 hK hX (wd9 hC 1 rfl) dX7_countPlacesWithEnds_1 ?_
  refine cv_V (As := []) (rest := []) hC hK hA hX (c_X4_clearMarks l G ad (S) ) (cwV 0 hC.2.2.2.2 gX7_countPlacesWithEnds_X4_clearMarks rfl rfl rfl hd_X4_clearMarks ⟨Nat.le_of_ble_eq_true rfl, Nat.le_of_ble_eq_true rfl⟩) (ci := 4) (q := (RX4, TX4, 8)) rfl (q0 := 24) rfl dX7_countPlacesWithEnds_4 rfl hl.1 rfl (Nat.le_of_ble_eq_true rfl) ⟨(Nat.zero_le _), (Nat.zero_le _)⟩ (fun S9 H locs hp9 hX => ?_)
  obtain ⟨mf4, hS9, hmf4⟩ := hp9
  rw [hS9] at hX
  replace hX : HH G A s.heap (wX G ad (u_marked (S) (mf4))) H locs := hX
  refine lv_iconst (v := nI (0)) hC.1 hC.2.1 dX7_countPlacesWithEnds_7 rfl ?_
  refine lv_istore_n (lv' := [(1, .int (nI (0))), (0, .ref (ad 34))]) hC.1 hC.2.1 dX7_countPlacesWithEnds_8 rfl hl (by decide) rfl (fun ls hl => ?_)
  have loop9 : ∀ (n9 : Nat) (i : Nat) (f1 : Nat → Int64) (f2 : Nat → Int32) (f3 : Nat → Nat) (f4 : Nat) (f5 : Nat → Bool), (i ≤ 6) → (∀ e, e ≤ 120 → f5 e = anyE S i e) → 6 - i < n9 → ∀ (H : Heap) (locs : List Loc) (ls : Array Slot), HH G A s.heap (wX G ad (u_listed (u_ends (u_marked (u_slipsAt (u_cols (S) (f1)) (f2)) (f5)) (f3)) (f4))) H locs → lv_has ls 3 [(1, .int (nI (i))), (0, .ref (ad 34))] → W p l e { frames := 4, cells := 0, slots := 0, locals := 108 } s m args below meth c H locs 0 0 (EndI G (wX G ad) A (fun r S' => r = nI (cS (anyE S 6) 121) ∧ scrX S S') below args s 0 0) (F0 m 9 ls []) := by
    intro n9
    induction n9 with
    | zero => intro i f1 f2 f3 f4 f5 hi hmk hn9; exact absurd hn9 (Nat.not_lt_zero _)
    | succ n9 ih9 =>
      intro i f1 f2 f3 f4 f5 hi hmk hn9 H locs ls hX hl
      refine lv_iload_n hC.1 hC.2.1 dX7_countPlacesWithEnds_9 rfl (lv_at hl 0 rfl) ?_
      refine lv_bipush (v := nI (6)) hC.1 hC.2.1 dX7_countPlacesWithEnds_10 (by decide +kernel) ?_
      refine n_icmp_ge hC (a := i) (b := 6) (tgt := 53) dX7_countPlacesWithEnds_12 (by decide) (by omega) (by decide) (fun c12 => ?_) (fun c12 => ?_)
      · skip
        refine lv_aload_n hC.1 hC.2.1 dX7_countPlacesWithEnds_53 rfl (lv_at hl 1 rfl) ?_
        refine g_x_search hC fi_X7_countPlacesWithEnds_X7 hK hX (wd9 hC 1 rfl) dX7_countPlacesWithEnds_54 ?_
        refine cv_I (As := []) (rest := []) hC hK hA hX (c_X4_countMarks l G ad (u_listed (u_ends (u_marked (u_slipsAt (u_cols (S) (f1)) (f2)) (f5)) (f3)) (f4)) ) (cwV 0 hC.2.2.2.2 gX7_countPlacesWithEnds_X4_countMarks rfl rfl rfl hd_X4_countMarks ⟨Nat.le_of_ble_eq_true rfl, Nat.le_of_ble_eq_true rfl⟩) (ci := 4) (q := (RX4, TX4, 8)) rfl (q0 := 24) rfl dX7_countPlacesWithEnds_57 rfl hl.1 rfl (Nat.le_of_ble_eq_true rfl) ⟨(Nat.zero_le _), (Nat.zero_le _)⟩ (fun r9 S9 H locs hp9 hX => ?_)
        obtain ⟨rfl, hS9⟩ := hp9
        rw [hS9] at hX
        replace hX : HH G A s.heap (wX G ad (u_listed (u_ends (u_marked (u_slipsAt (u_cols (S) (f1)) (f2)) (f5)) (f3)) (f4))) H locs := hX
        refine r_ireturn hC hr hlk hX dX7_countPlacesWithEnds_60 ?_
        obtain rfl : i = 6 := by omega
        exact ⟨congrArg nI (cS_congr (fun e he => hmk e (by omega))), ⟨rfl, rfl, rfl, rfl, rfl, rfl, rfl, rfl, rfl, rfl, rfl⟩⟩
      · skip
        refine lv_aload_n hC.1 hC.2.1 dX7_countPlacesWithEnds_15 rfl (lv_at hl 1 rfl) ?_
        refine g_x_now hC fi_X7_countPlacesWithEnds_X7 hK hX (wd9 hC 2 rfl) dX7_countPlacesWithEnds_16 ?_
        refine lv_iload_n hC.1 hC.2.1 dX7_countPlacesWithEnds_19 rfl (lv_at hl 0 rfl) ?_
        refine cv_Q (As := [.int (nI (i))]) (rest := []) hC hK hA hX (c_X5_patternOrNull l G ad (u_listed (u_ends (u_marked (u_slipsAt (u_cols (S) (f1)) (f2)) (f5)) (f3)) (f4)) (nI (i)) hTp) (cwV 1 hC.2.2.2.2 gX7_countPlacesWithEnds_X5_patternOrNull rfl rfl rfl hd_X5_patternOrNull ⟨Nat.le_of_ble_eq_true rfl, Nat.le_of_ble_eq_true rfl⟩) (ci := 5) (q := (RX5, TX5, 5)) rfl (q0 := 0) rfl dX7_countPlacesWithEnds_20 rfl hl.1 rfl (Nat.le_of_ble_eq_true rfl) ⟨(Nat.zero_le _), (Nat.zero_le _)⟩ (fun r9 S9 H locs hp9 hX => ?_)
        obtain ⟨hr9, hS9⟩ := hp9
        rw [hS9] at hX
        replace hr9 : ((∃ j, nI (i) = nI j ∧ j < st_pcnt (x_now S) ∧ r9 = st_pats (x_now S) j) ∨ ((nI (i) < 0 ∨ nI (st_pcnt (x_now S)) ≤ nI (i)) ∧ r9 = none)) := hr9
        replace hX : HH G A s.heap (wX G ad (u_listed (u_ends (u_marked (u_slipsAt (u_cols (S) (f1)) (f2)) (f5)) (f3)) (f4))) H locs := hX
        rcases hr9 with ⟨jp9, hjp9, hjc9, hr9⟩ | ⟨hn9, hr9⟩
        · obtain rfl : i = jp9 := nI_inj9 (by omega) (by omega) hjp9
          obtain ⟨q0, jq0, hq_q0, hpa9⟩ := hTj i hjc9
          obtain rfl : r9 = some (pd_a q0) := hr9.trans hpa9
          have hpe9 := patOf_eq hd0 hq_q0 hpa9
          obtain ⟨hm1, hm0, hb0, hpt0⟩ := hokB _ jq0 hq_q0
          refine lv_astore_n (lv' := [(2, .ref (pd_a q0)), (1, .int (nI (i))), (0, .ref (ad 34))]) hC.1 hC.2.1 dX7_countPlacesWithEnds_23 rfl hl (by decide) rfl (fun ls hl => ?_)
          refine lv_aload_n hC.1 hC.2.1 dX7_countPlacesWithEnds_24 rfl (lv_at hl 0 rfl) ?_
          refine lv_ifnull hC.1 hC.2.1 dX7_countPlacesWithEnds_25 ?_
          refine lv_aload_n hC.1 hC.2.1 dX7_countPlacesWithEnds_28 rfl (lv_at hl 2 rfl) ?_
          refine g_x_search hC fi_X7_countPlacesWithEnds_X7 hK hX (wd9 hC 1 rfl) dX7_countPlacesWithEnds_29 ?_
          refine lv_aload_n hC.1 hC.2.1 dX7_countPlacesWithEnds_32 rfl (lv_at hl 2 rfl) ?_
          refine g_x_now hC fi_X7_countPlacesWithEnds_X7 hK hX (wd9 hC 2 rfl) dX7_countPlacesWithEnds_33 ?_
          refine lv_aload_n hC.1 hC.2.1 dX7_countPlacesWithEnds_36 rfl (lv_at hl 0 rfl) ?_
          refine cv_V (As := [.ref (ad 0), .ref (pd_a q0)]) (rest := []) hC hK hA hX (c_X4_findEnds l G ad (u_listed (u_ends (u_marked (u_slipsAt (u_cols (S) (f1)) (f2)) (f5)) (f3)) (f4)) q0 _ hq_q0 hm0 hTm hT hTn) (cwV 2 hC.2.2.2.2 gX7_countPlacesWithEnds_X4_findEnds rfl rfl rfl hd_X4_findEnds ⟨Nat.le_of_ble_eq_true rfl, Nat.le_of_ble_eq_true rfl⟩) (ci := 4) (q := (RX4, TX4, 8)) rfl (q0 := 24) rfl dX7_countPlacesWithEnds_37 rfl hl.1 rfl (Nat.le_of_ble_eq_true rfl) ⟨(Nat.zero_le _), (Nat.zero_le _)⟩ (fun S9 H locs hp9 hX => ?_)
          obtain ⟨cf37, sf37, ef37, hS9, hLR37, hsf37⟩ := hp9
          rw [hS9] at hX
          replace hsf37 : ∀ e, e ≤ st_len (x_now S) → sf37 e = slipV (dX q0 S e) (st_most (x_now S)) := hsf37
          replace hLR37 : LR ef37 (selX q0 S) (st_len (x_now S) + 1) := hLR37
          replace hX : HH G A s.heap (wX G ad (u_listed (u_ends (u_marked (u_slipsAt (u_cols (S) (cf37)) (sf37)) (f5)) (ef37)) (cS (selX q0 S) (st_len (x_now S) + 1)))) H locs := hX
          have hcl37 := cS_le (selX q0 S) (st_len (x_now S) + 1)
          have hsX37 := @sf_sel q0 S sf37 hsf37
          have hn9 : cS (selX q0 S) (st_len (x_now S) + 1) ≤ 121 := by omega
          have he9 : ∀ r, r < cS (selX q0 S) (st_len (x_now S) + 1) → ef37 r ≤ 120 := fun r hr => by have := (LR_at hLR37 hr).1; omega
          have hg9 : ∀ r, r < cS (selX q0 S) (st_len (x_now S) + 1) → sf37 (ef37 r) = nI (gX q0 S ef37 r) := fun r hr => ends_g hTm hLR37 hsf37 hr
          have hg19 : ∀ r, gX q0 S ef37 r ≤ 200 := fun r => Nat.le_trans (gX_4 _ _ _ _) (by decide)
          refine lv_aload_n hC.1 hC.2.1 dX7_countPlacesWithEnds_40 rfl (lv_at hl 2 rfl) ?_
          refine g_x_search hC fi_X7_countPlacesWithEnds_X7 hK hX (wd9 hC 1 rfl) dX7_countPlacesWithEnds_41 ?_
          refine cv_V (As := []) (rest := []) hC hK hA hX (c_X4_markEnds l G ad (u_listed (u_ends (u_marked (u_slipsAt (u_cols (S) (cf37)) (sf37)) (f5)) (ef37)) (cS (selX q0 S) (st_len (x_now S) + 1))) hn9 he9) (cwV 0 hC.2.2.2.2 gX7_countPlacesWithEnds_X4_markEnds rfl rfl rfl hd_X4_markEnds ⟨Nat.le_of_ble_eq_true rfl, Nat.le_of_ble_eq_true rfl⟩) (ci := 4) (q := (RX4, TX4, 8)) rfl (q0 := 24) rfl dX7_countPlacesWithEnds_44 rfl hl.1 rfl (Nat.le_of_ble_eq_true rfl) ⟨(Nat.zero_le _), (Nat.zero_le _)⟩ (fun S9 H locs hp9 hX => ?_)
          obtain ⟨mf44, hS9, hmf44⟩ := hp9
          rw [hS9] at hX
          replace hX : HH G A s.heap (wX G ad (u_listed (u_ends (u_marked (u_slipsAt (u_cols (S) (cf37)) (sf37)) (mf44)) (ef37)) (cS (selX q0 S) (st_len (x_now S) + 1)))) H locs := hX
          refine lv_iinc (v := nI (i + 1)) (lv' := [(1, .int (nI (i + 1))), (2, .ref (pd_a q0)), (0, .ref (ad 34))]) hC.1 hC.2.1 dX7_countPlacesWithEnds_47 hl (k := 1) rfl (n_inc1 _) (by decide) rfl (fun ls hl => ?_)
          refine lv_goto (tgt := 9) hC.1 hC.2.1 dX7_countPlacesWithEnds_50 (by decide) ?_
          refine ih9 (i + 1) (cf37) (sf37) (ef37) (cS (selX q0 S) (st_len (x_now S) + 1)) (mf44) ?_ ?_ ?_ _ _ ls hX (lv_sub hl [0, 2] rfl)
          · omega
          · exact fun e he => (hmf44 e he).trans (any_t hmk hLR37 hjc9 hpe9 hTn he)
          · omega
        · obtain rfl : r9 = none := hr9
          have hjn9 : ¬ i < st_pcnt (x_now S) := noP_nat (by omega) (by omega) hn9
          refine lv_astore_nN (lv' := [(2, .null), (1, .int (nI (i))), (0, .ref (ad 34))]) hC.1 hC.2.1 dX7_countPlacesWithEnds_23 rfl hl (by decide) rfl (fun ls hl => ?_)
          refine lv_aload_nN hC.1 hC.2.1 dX7_countPlacesWithEnds_24 rfl (lv_at hl 0 rfl) ?_
          refine lv_ifnullN (tgt := 47) hC.1 hC.2.1 dX7_countPlacesWithEnds_25 (by decide) ?_
          refine lv_iinc (v := nI (i + 1)) (lv' := [(1, .int (nI (i + 1))), (2, .null), (0, .ref (ad 34))]) hC.1 hC.2.1 dX7_countPlacesWithEnds_47 hl (k := 1) rfl (n_inc1 _) (by decide) rfl (fun ls hl => ?_)
          refine lv_goto (tgt := 9) hC.1 hC.2.1 dX7_countPlacesWithEnds_50 (by decide) ?_
          refine ih9 (i + 1) (f1) (f2) (f3) (f4) (f5) ?_ ?_ ?_ _ _ ls hX (lv_sub hl [0, 2] rfl)
          · omega
          · exact fun e he => (hmk e he).trans (any_f hjn9)
          · omega
  refine loop9 _ (0) (x_cols S) (x_slipsAt S) (x_ends S) (x_listed S) (mf4) ?_ ?_ (Nat.lt_succ_self _) _ _ ls hX (lv_sub hl [0, 1] rfl)
  · omega
  · exact hmf4
theorem fi_X7_replace_X7 : ∀ w ∈ wsX70, w ∈ wsX7_replace := by decide +kernel
theorem fi_X7_replace_X4 : ∀ w ∈ wsX40, w ∈ wsX7_replace := by decide +kernel
theorem fi_X7_replace_X5 : ∀ w ∈ wsX50, w ∈ wsX7_replace := by decide +kernel
theorem hd_X4_lengthWithParts : yX4_lengthWithParts.cls = RX4 ∧ yX4_lengthWithParts.cls ≠ "java/lang/invoke/MethodHandle" ∧ yX4_lengthWithParts.cls ≠ "java/lang/invoke/VarHandle" ∧ (parseMethodDescriptor yX4_lengthWithParts.desc).map (fun d => d.parameters.length) = some 1 := by decide +kernel
theorem hd_X4_putLetterForParts : yX4_putLetterForParts.cls = RX4 ∧ yX4_putLetterForParts.cls ≠ "java/lang/invoke/MethodHandle" ∧ yX4_putLetterForParts.cls ≠ "java/lang/invoke/VarHandle" ∧ (parseMethodDescriptor yX4_putLetterForParts.desc).map (fun d => d.parameters.length) = some 2 := by decide +kernel
set_option maxHeartbeats 4000000 in
set_option maxRecDepth 100000 in
theorem c_X7_replace (l : Launch) (G : GX) (ad : Nat → Nat) (S : XS) (hok : okX S) (p0 : Int32) (c0 : Nat) (hc0 : c0 < 65536) : CtI l yX7_replace wsX7_replace { frames := 5, cells := 0, slots := 0, locals := 134 } G (wX G ad) (S) [.ref (ad 34), .int (p0), .int (nI (c0))] (fun r S' => (noP S p0 ∧ r = -1 ∧ S' = S) ∨ ∃ q, hasP S p0 q ∧ ((isLet c0 = false ∧ r = -2 ∧ S' = S) ∨ (isLet c0 = true ∧ ∃ ef bf, LR ef (alX q S) (st_len (x_now S) + 1) ∧ (∀ e, e ≤ st_len (x_now S) → bf e = bX q S e) ∧ ((cS (alX q S) (st_len (x_now S) + 1) = 0 ∧ r = -5 ∧ scrX S S') ∨ (0 < cS (alX q S) (st_len (x_now S) + 1) ∧ 120 < st_len (x_now S) + cS (alX q S) (st_len (x_now S) + 1) - pS bf ef (cS (alX q S) (st_len (x_now S) + 1)) ∧ r = -3 ∧ scrX S S') ∨ (0 < cS (alX q S) (st_len (x_now S) + 1) ∧ st_len (x_now S) + cS (alX q S) (st_len (x_now S) + 1) - pS bf ef (cS (alX q S) (st_len (x_now S) + 1)) ≤ 120 ∧ r = nI (cS (alX q S) (st_len (x_now S) + 1)) ∧ scrX (u_now (recF S) (repF (st_text (x_now S)) c0 bf ef (st_len (x_now S)) (cS (alX q S) (st_len (x_now S) + 1)), st_len (x_now S) + cS (alX q S) (st_len (x_now S) + 1) - pS bf ef (cS (alX q S) (st_len (x_now S) + 1)), st_pats (x_now S), st_pcnt (x_now S), st_most (x_now S))) S'))))) 0 0 := by
  refine CtI.of (cc := cX7_replace) (maxL := 4) (ret := some .int) (by decide +kernel) rfl (Nat.le_of_ble_eq_true rfl) ?_
  intro p e s m args below meth c ls A hC hr hlk hin hK hA hX hl
  have hl : lv_has ls 4 [(0, .ref (ad 34)), (1, .int (p0)), (2, .int (nI (c0)))] := hl
  have hokk := hok
  obtain ⟨hok1, hok2, hok3, hok4, hok5, hok6, hok7, hok8, hok9, hokA, hokB⟩ := hok
  obtain ⟨hT, hTn, hTp, hTm, hTi, hTj⟩ := hok1
  refine lv_aload_n hC.1 hC.2.1 dX7_replace_0 rfl (lv_at hl 0 rfl) ?_
  refine g_x_now hC fi_X7_replace_X7 hK hX (wd9 hC 1 rfl) dX7_replace_1 ?_
  refine lv_iload_n hC.1 hC.2.1 dX7_replace_4 rfl (lv_at hl 1 rfl) ?_
  refine cv_Q (As := [.int (p0)]) (rest := []) hC hK hA hX (c_X5_patternOrNull l G ad (S) (p0) hTp) (cwV 1 hC.2.2.2.2 gX7_replace_X5_patternOrNull rfl rfl rfl hd_X5_patternOrNull ⟨Nat.le_of_ble_eq_true rfl, Nat.le_of_ble_eq_true rfl⟩) (ci := 5) (q := (RX5, TX5, 5)) rfl (q0 := 0) rfl dX7_replace_5 rfl hl.1 rfl (Nat.le_of_ble_eq_true rfl) ⟨(Nat.zero_le _), (Nat.zero_le _)⟩ (fun r9 S9 H locs hp9 hX => ?_)
  obtain ⟨hr9, hS9⟩ := hp9
  rw [hS9] at hX
  replace hr9 : ((∃ j, p0 = nI j ∧ j < st_pcnt (x_now S) ∧ r9 = st_pats (x_now S) j) ∨ ((p0 < 0 ∨ nI (st_pcnt (x_now S)) ≤ p0) ∧ r9 = none)) := hr9
  replace hX : HH G A s.heap (wX G ad (S)) H locs := hX
  rcases hr9 with ⟨jp9, hjp9, hjc9, hr9⟩ | ⟨hn9, hr9⟩
  · obtain ⟨q0, jq0, hq_q0, hpa9⟩ := hTj jp9 hjc9
    obtain rfl : r9 = some (pd_a q0) := hr9.trans hpa9
    have hP0 : hasP S p0 q0 := ⟨jp9, hjp9, hjc9, hpa9, jq0, hq_q0⟩
    obtain ⟨hm1, hm0, hb0, hpt0⟩ := hokB q0 jq0 hq_q0
    refine lv_astore_n (lv' := [(3, .ref (pd_a q0)), (0, .ref (ad 34)), (1, .int (p0)), (2, .int (nI (c0)))]) hC.1 hC.2.1 dX7_replace_8 rfl hl (by decide) rfl (fun ls hl => ?_)
    refine lv_aload_n hC.1 hC.2.1 dX7_replace_9 rfl (lv_at hl 0 rfl) ?_
    refine lv_ifnonnull (tgt := 15) hC.1 hC.2.1 dX7_replace_10 (by decide) ?_
    refine lv_iload_n hC.1 hC.2.1 dX7_replace_15 rfl (lv_at hl 3 rfl) ?_
    refine ps_I (As := [.int (nI (c0))]) (rest := []) hC hK hA hX (c_X7_isLetter l G (c0) (by omega)) (va_cwS 1 hC.2.2.2.2 gX7_replace_X7_isLetter rfl rfl rfl hd_X7_isLetter_s ⟨Nat.le_of_ble_eq_true rfl, Nat.le_of_ble_eq_true rfl⟩) dX7_replace_16 rfl hl.1 rfl (Nat.le_of_ble_eq_true rfl) ⟨(Nat.zero_le _), (Nat.zero_le _)⟩ (fun r9 S9 H locs hp9 hX => ?_)
    obtain rfl := hp9
    replace hX : HH G A s.heap (wX G ad (S)) H locs := hX
    refine b_if_ne hC (b := isLet c0) (tgt := 25) dX7_replace_19 (by decide) (fun c19 => ?_) (fun c19 => ?_)
    · skip
      refine lv_aload_n hC.1 hC.2.1 dX7_replace_25 rfl (lv_at hl 1 rfl) ?_
      refine g_x_search hC fi_X7_replace_X7 hK hX (wd9 hC 2 rfl) dX7_replace_26 ?_
      refine lv_aload_n hC.1 hC.2.1 dX7_replace_29 rfl (lv_at hl 1 rfl) ?_
      refine g_x_now hC fi_X7_replace_X7 hK hX (wd9 hC 1 rfl) dX7_replace_30 ?_
      refine lv_aload_n hC.1 hC.2.1 dX7_replace_33 rfl (lv_at hl 0 rfl) ?_
      refine cv_V (As := [.ref (ad 0), .ref (pd_a q0)]) (rest := []) hC hK hA hX (c_X4_findAlone l G ad (S) q0 _ hq_q0 hm0 hTm hT hTn) (cwV 2 hC.2.2.2.2 gX7_replace_X4_findAlone rfl rfl rfl hd_X4_findAlone ⟨Nat.le_of_ble_eq_true rfl, Nat.le_of_ble_eq_true rfl⟩) (ci := 4) (q := (RX4, TX4, 8)) rfl (q0 := 24) rfl dX7_replace_34 rfl hl.1 rfl (Nat.le_of_ble_eq_true rfl) ⟨(Nat.zero_le _), (Nat.zero_le _)⟩ (fun S9 H locs hp9 hX => ?_)
      obtain ⟨cf34, kf34, sf34, bf34, ef34, hS9, hLR34, hsf34, hbf34⟩ := hp9
      rw [hS9] at hX
      replace hLR34 : LR ef34 (alX q0 S) (st_len (x_now S) + 1) := hLR34
      replace hsf34 : ∀ e, e ≤ st_len (x_now S) → sf34 e = slipV (dX q0 S e) (st_most (x_now S)) := hsf34
      replace hbf34 : ∀ e, e ≤ st_len (x_now S) → bf34 e = bX q0 S e := hbf34
      replace hX : HH G A s.heap (wX G ad (u_listed (u_ends (u_begAt (u_slipsAt (u_keys (u_cols (S) (cf34)) (kf34)) (sf34)) (bf34)) (ef34)) (cS (alX q0 S) (st_len (x_now S) + 1)))) H locs := hX
      have hcl34 := cS_le (alX q0 S) (st_len (x_now S) + 1)
      have hsX34 := @sf_sel q0 S sf34 hsf34
      have hpk0 := al_parts hLR34 (fun e he => bX_le (q := q0) (S := S) (e := e) (by omega))
      rw [Nat.add_sub_cancel] at hpk0
      have hpk := partsOK_congr (bg' := bf34) hpk0 hbf34
      have hpkL := pS_L hpk (Nat.le_refl _)
      refine lv_aload_n hC.1 hC.2.1 dX7_replace_37 rfl (lv_at hl 1 rfl) ?_
      refine g_x_search hC fi_X7_replace_X7 hK hX (wd9 hC 2 rfl) dX7_replace_38 ?_
      refine gN_search_listed hC fi_X7_replace_X4 hK hX (hnf hK 7 rfl) dX7_replace_41 (v := cS (alX q0 S) (st_len (x_now S) + 1)) rfl ?_
      refine n_if_ne hC (a := cS (alX q0 S) (st_len (x_now S) + 1)) (tgt := 50) dX7_replace_44 (by decide) (by omega) (fun c44 => ?_) (fun c44 => ?_)
      · skip
        refine lv_aload_n hC.1 hC.2.1 dX7_replace_50 rfl (lv_at hl 1 rfl) ?_
        refine g_x_search hC fi_X7_replace_X7 hK hX (wd9 hC 2 rfl) dX7_replace_51 ?_
        refine lv_aload_n hC.1 hC.2.1 dX7_replace_54 rfl (lv_at hl 1 rfl) ?_
        refine g_x_now hC fi_X7_replace_X7 hK hX (wd9 hC 1 rfl) dX7_replace_55 ?_
        refine gN_len (k := 0) (by decide) hC fi_X7_replace_X5 hK hX (hnf hK 5 rfl) dX7_replace_58 (v := st_len (x_now S)) rfl ?_
        refine cv_I (As := [.int (nI (st_len (x_now S)))]) (rest := []) hC hK hA hX (c_X4_lengthWithParts l G ad (u_listed (u_ends (u_begAt (u_slipsAt (u_keys (u_cols (S) (cf34)) (kf34)) (sf34)) (bf34)) (ef34)) (cS (alX q0 S) (st_len (x_now S) + 1))) (st_len (x_now S)) hTn (show cS (alX q0 S) (st_len (x_now S) + 1) ≤ 121 from by omega) hpk) (cwV 1 hC.2.2.2.2 gX7_replace_X4_lengthWithParts rfl rfl rfl hd_X4_lengthWithParts ⟨Nat.le_of_ble_eq_true rfl, Nat.le_of_ble_eq_true rfl⟩) (ci := 4) (q := (RX4, TX4, 8)) rfl (q0 := 24) rfl dX7_replace_61 rfl hl.1 rfl (Nat.le_of_ble_eq_true rfl) ⟨(Nat.zero_le _), (Nat.zero_le _)⟩ (fun r9 S9 H locs hp9 hX => ?_)
        obtain ⟨rfl, hS9⟩ := hp9
        rw [hS9] at hX
        replace hX : HH G A s.heap (wX G ad (u_listed (u_ends (u_begAt (u_slipsAt (u_keys (u_cols (S) (cf34)) (kf34)) (sf34)) (bf34)) (ef34)) (cS (alX q0 S) (st_len (x_now S) + 1)))) H locs := hX
        refine lv_bipush (v := nI (120)) hC.1 hC.2.1 dX7_replace_64 (by decide +kernel) ?_
        refine n_icmp_le hC (a := (st_len (x_now S)) + (cS (alX q0 S) (st_len (x_now S) + 1)) - pS (bf34) (ef34) (cS (alX q0 S) (st_len (x_now S) + 1))) (b := 120) (tgt := 72) dX7_replace_66 (by decide) (by omega) (by decide) (fun c66 => ?_) (fun c66 => ?_)
        · skip
          refine lv_aload_n hC.1 hC.2.1 dX7_replace_72 rfl (lv_at hl 1 rfl) ?_
          refine g_x_history hC fi_X7_replace_X7 hK hX (wd9 hC 3 rfl) dX7_replace_73 ?_
          refine lv_aload_n hC.1 hC.2.1 dX7_replace_76 rfl (lv_at hl 1 rfl) ?_
          refine g_x_now hC fi_X7_replace_X7 hK hX (wd9 hC 1 rfl) dX7_replace_77 ?_
          refine cv_V (As := [.ref (ad 0)]) (rest := []) hC hK hA hX (c_X0_record l G ad (u_listed (u_ends (u_begAt (u_slipsAt (u_keys (u_cols (S) (cf34)) (kf34)) (sf34)) (bf34)) (ef34)) (cS (alX q0 S) (st_len (x_now S) + 1))) hok4 hT.1 hTi hok6) (cwV 1 hC.2.2.2.2 gX7_replace_X0_record rfl rfl rfl hd_X0_record ⟨Nat.le_of_ble_eq_true rfl, Nat.le_of_ble_eq_true rfl⟩) (ci := 0) (q := (RX0, TX0, 2)) rfl (q0 := 18) rfl dX7_replace_80 rfl hl.1 rfl (Nat.le_of_ble_eq_true rfl) ⟨(Nat.zero_le _), (Nat.zero_le _)⟩ (fun S9 H locs hp9 hX => ?_)
          obtain ⟨pm9, hh9, hS9, hrec9⟩ := hp9
          obtain ⟨rfl, rfl⟩ := rec_det hrec9
          rw [hS9] at hX
          replace hX : HH G A s.heap (wX G ad (u_listed (u_ends (u_begAt (u_slipsAt (u_keys (u_cols (u_hcnt (u_perm (u_hs (S) (va_up (x_hs S) (rcP S (rcH S)) (cpSt (x_hs S (rcP S (rcH S))) (x_now S)))) (rcP S)) (rcH S + 1)) (cf34)) (kf34)) (sf34)) (bf34)) (ef34)) (cS (alX q0 S) (st_len (x_now S) + 1)))) H locs := hX
          refine lv_aload_n hC.1 hC.2.1 dX7_replace_83 rfl (lv_at hl 1 rfl) ?_
          refine g_x_search hC fi_X7_replace_X7 hK hX (wd9 hC 2 rfl) dX7_replace_84 ?_
          refine lv_aload_n hC.1 hC.2.1 dX7_replace_87 rfl (lv_at hl 1 rfl) ?_
          refine g_x_now hC fi_X7_replace_X7 hK hX (wd9 hC 1 rfl) dX7_replace_88 ?_
          refine lv_iload_n hC.1 hC.2.1 dX7_replace_91 rfl (lv_at hl 3 rfl) ?_
          refine cv_V (As := [.ref (ad 0), .int (nI (c0))]) (rest := []) hC hK hA hX (c_X4_putLetterForParts l G ad (u_listed (u_ends (u_begAt (u_slipsAt (u_keys (u_cols (u_hcnt (u_perm (u_hs (S) (va_up (x_hs S) (rcP S (rcH S)) (cpSt (x_hs S (rcP S (rcH S))) (x_now S)))) (rcP S)) (rcH S + 1)) (cf34)) (kf34)) (sf34)) (bf34)) (ef34)) (cS (alX q0 S) (st_len (x_now S) + 1))) (c0) hc0 hT.1 hTn (show cS (alX q0 S) (st_len (x_now S) + 1) ≤ 121 from by omega) hpk (show st_len (x_now S) + cS (alX q0 S) (st_len (x_now S) + 1) - pS bf34 ef34 (cS (alX q0 S) (st_len (x_now S) + 1)) ≤ 120 from by omega)) (cwV 2 hC.2.2.2.2 gX7_replace_X4_putLetterForParts rfl rfl rfl hd_X4_putLetterForParts ⟨Nat.le_of_ble_eq_true rfl, Nat.le_of_ble_eq_true rfl⟩) (ci := 4) (q := (RX4, TX4, 8)) rfl (q0 := 24) rfl dX7_replace_92 rfl hl.1 rfl (Nat.le_of_ble_eq_true rfl) ⟨(Nat.zero_le _), (Nat.zero_le _)⟩ (fun S9 H locs hp9 hX => ?_)
          rw [hp9] at hX
          replace hX : HH G A s.heap (wX G ad (u_listed (u_ends (u_oldText (u_begAt (u_slipsAt (u_keys (u_cols (u_hcnt (u_perm (u_hs (u_now S (repF (st_text (x_now S)) c0 bf34 ef34 (st_len (x_now S)) (cS (alX q0 S) (st_len (x_now S) + 1)), st_len (x_now S) + cS (alX q0 S) (st_len (x_now S) + 1) - pS bf34 ef34 (cS (alX q0 S) (st_len (x_now S) + 1)), st_pats (x_now S), st_pcnt (x_now S), st_most (x_now S))) (va_up (x_hs S) (rcP S (rcH S)) (cpSt (x_hs S (rcP S (rcH S))) (x_now S)))) (rcP S)) (rcH S + 1)) (cf34)) (kf34)) (sf34)) (bf34)) (va_cpy (st_text (x_now S)) (x_oldText S) 0 0 120)) (ef34)) (cS (alX q0 S) (st_len (x_now S) + 1)))) H locs := hX
          refine lv_aload_n hC.1 hC.2.1 dX7_replace_95 rfl (lv_at hl 1 rfl) ?_
          refine g_x_search hC fi_X7_replace_X7 hK hX (wd9 hC 2 rfl) dX7_replace_96 ?_
          refine gN_search_listed hC fi_X7_replace_X4 hK hX (hnf hK 7 rfl) dX7_replace_99 (v := cS (alX q0 S) (st_len (x_now S) + 1)) rfl ?_
          refine r_ireturn hC hr hlk hX dX7_replace_102 ?_
          exact Or.inr ⟨q0, hP0, Or.inr ⟨by assumption, ef34, bf34, hLR34, hbf34, Or.inr (Or.inr ⟨by omega, by omega, rfl, ⟨rfl, rfl, rfl, rfl, rfl, rfl, rfl, rfl, rfl, rfl, rfl⟩⟩)⟩⟩
        · skip
          refine lv_bipush (v := (-3)) hC.1 hC.2.1 dX7_replace_69 (by decide +kernel) ?_
          refine r_ireturn hC hr hlk hX dX7_replace_71 ?_
          exact Or.inr ⟨q0, hP0, Or.inr ⟨by assumption, ef34, bf34, hLR34, hbf34, Or.inr (Or.inl ⟨by omega, by omega, rfl, ⟨rfl, rfl, rfl, rfl, rfl, rfl, rfl, rfl, rfl, rfl, rfl⟩⟩)⟩⟩
      · skip
        refine lv_bipush (v := (-5)) hC.1 hC.2.1 dX7_replace_47 (by decide +kernel) ?_
        refine r_ireturn hC hr hlk hX dX7_replace_49 ?_
        exact Or.inr ⟨q0, hP0, Or.inr ⟨by assumption, ef34, bf34, hLR34, hbf34, Or.inl ⟨by omega, rfl, ⟨rfl, rfl, rfl, rfl, rfl, rfl, rfl, rfl, rfl, rfl, rfl⟩⟩⟩⟩
    · skip
      refine lv_bipush (v := (-2)) hC.1 hC.2.1 dX7_replace_22 (by decide +kernel) ?_
      refine r_ireturn hC hr hlk hX dX7_replace_24 ?_
      exact Or.inr ⟨q0, hP0, Or.inl ⟨by assumption, rfl, rfl⟩⟩
  · obtain rfl : r9 = none := hr9
    have hP0 : noP S p0 := hn9
    refine lv_astore_nN (lv' := [(3, .null), (0, .ref (ad 34)), (1, .int (p0)), (2, .int (nI (c0)))]) hC.1 hC.2.1 dX7_replace_8 rfl hl (by decide) rfl (fun ls hl => ?_)
    refine lv_aload_nN hC.1 hC.2.1 dX7_replace_9 rfl (lv_at hl 0 rfl) ?_
    refine lv_ifnonnullN hC.1 hC.2.1 dX7_replace_10 ?_
    refine lv_iconst (v := (-1)) hC.1 hC.2.1 dX7_replace_13 rfl ?_
    refine r_ireturn hC hr hlk hX dX7_replace_14 ?_
    exact Or.inl ⟨hP0, rfl, rfl⟩
theorem fi_X7_count_X7 : ∀ w ∈ wsX70, w ∈ wsX7_count := by decide +kernel
theorem fi_X7_count_X5 : ∀ w ∈ wsX50, w ∈ wsX7_count := by decide +kernel
theorem hd_X7_countAllEnds : yX7_countAllEnds.cls = RX7 ∧ yX7_countAllEnds.cls ≠ "java/lang/invoke/MethodHandle" ∧ yX7_countAllEnds.cls ≠ "java/lang/invoke/VarHandle" ∧ (parseMethodDescriptor yX7_countAllEnds.desc).map (fun d => d.parameters.length) = some 0 := by decide +kernel
theorem hd_X7_countPlacesWithEnds : yX7_countPlacesWithEnds.cls = RX7 ∧ yX7_countPlacesWithEnds.cls ≠ "java/lang/invoke/MethodHandle" ∧ yX7_countPlacesWithEnds.cls ≠ "java/lang/invoke/VarHandle" ∧ (parseMethodDescriptor yX7_countPlacesWithEnds.desc).map (fun d => d.parameters.length) = some 0 := by decide +kernel
theorem hd_X5_countBlanks : yX5_countBlanks.cls = RX5 ∧ yX5_countBlanks.cls ≠ "java/lang/invoke/MethodHandle" ∧ yX5_countBlanks.cls ≠ "java/lang/invoke/VarHandle" ∧ (parseMethodDescriptor yX5_countBlanks.desc).map (fun d => d.parameters.length) = some 0 := by decide +kernel
theorem fi_X7_count_X0 : ∀ w ∈ wsX00, w ∈ wsX7_count := by decide +kernel
theorem fi_X7_count_X1 : ∀ w ∈ wsX10, w ∈ wsX7_count := by decide +kernel
set_option maxHeartbeats 4000000 in
set_option maxRecDepth 100000 in
theorem c_X7_count (l : Launch) (G : GX) (ad : Nat → Nat) (S : XS) (hok : okX S) (hd0 : noDup S) (k0 : Int32) : CtI l yX7_count wsX7_count { frames := 5, cells := 0, slots := 0, locals := 131 } G (wX G ad) (S) [.ref (ad 34), .int (k0)] (fun r S' => scrX S S' ∧ (((k0.toInt < 0 ∨ 7 < k0.toInt) ∧ r = -2) ∨ (k0 = nI 0 ∧ r = nI (st_len (x_now S))) ∨ (k0 = nI 1 ∧ r = nI (st_pcnt (x_now S))) ∨ (k0 = nI 2 ∧ r = nI (st_most (x_now S))) ∨ (k0 = nI 3 ∧ r = nI (sumN (allE S) 6)) ∨ (k0 = nI 4 ∧ r = nI (cS (anyE S 6) 121)) ∨ (k0 = nI 5 ∧ r = nI (cntB (st_text (x_now S)) (st_len (x_now S)))) ∨ (k0 = nI 6 ∧ r = nI (x_hcnt S)) ∨ (k0 = nI 7 ∧ r = nI (x_plen S)))) 0 0 := by
  refine CtI.of (cc := cX7_count) (maxL := 2) (ret := some .int) (by decide +kernel) rfl (Nat.le_of_ble_eq_true rfl) ?_
  intro p e s m args below meth c ls A hC hr hlk hin hK hA hX hl
  have hl : lv_has ls 2 [(0, .ref (ad 34)), (1, .int (k0))] := hl
  have hokk := hok
  obtain ⟨hok1, hok2, hok3, hok4, hok5, hok6, hok7, hok8, hok9, hokA, hokB⟩ := hok
  obtain ⟨hT, hTn, hTp, hTm, hTi, hTj⟩ := hok1
  refine lv_iload_n hC.1 hC.2.1 dX7_count_0 rfl (lv_at hl 1 rfl) ?_
  by_cases hsw : k0.toInt < 0 ∨ 7 < k0.toInt
  · refine lv_tableOut (tgt := 106) hC.1 hC.2.1 dX7_count_1 hsw (by decide) ?_
    refine lv_bipush (v := (-2)) hC.1 hC.2.1 dX7_count_106 (by decide +kernel) ?_
    refine r_ireturn hC hr hlk hX dX7_count_108 ?_
    exact ⟨⟨rfl, rfl, rfl, rfl, rfl, rfl, rfl, rfl, rfl, rfl, rfl⟩, Or.inl ⟨hsw, rfl⟩⟩
  · obtain ⟨j9, hj9, rfl⟩ := tsw_of 7 hsw ⟨rfl, by decide⟩
    obtain rfl | rfl | rfl | rfl | rfl | rfl | rfl | rfl : j9 = 0 ∨ j9 = 1 ∨ j9 = 2 ∨ j9 = 3 ∨ j9 = 4 ∨ j9 = 5 ∨ j9 = 6 ∨ j9 = 7 := by omega
    · refine lv_tableIn (tgt := 48) (off := 47) hC.1 hC.2.1 dX7_count_1 (by decide +kernel) (by decide +kernel) (by decide +kernel) (by decide) ?_
      refine lv_aload_n hC.1 hC.2.1 dX7_count_48 rfl (lv_at hl 0 rfl) ?_
      refine g_x_now hC fi_X7_count_X7 hK hX (wd9 hC 1 rfl) dX7_count_49 ?_
      refine gN_len (k := 0) (by decide) hC fi_X7_count_X5 hK hX (hnf hK 5 rfl) dX7_count_52 (v := st_len (x_now S)) rfl ?_
      refine r_ireturn hC hr hlk hX dX7_count_55 ?_
      exact ⟨⟨rfl, rfl, rfl, rfl, rfl, rfl, rfl, rfl, rfl, rfl, rfl⟩, Or.inr (Or.inl ⟨rfl, rfl⟩)⟩
    · refine lv_tableIn (tgt := 56) (off := 55) hC.1 hC.2.1 dX7_count_1 (by decide +kernel) (by decide +kernel) (by decide +kernel) (by decide) ?_
      refine lv_aload_n hC.1 hC.2.1 dX7_count_56 rfl (lv_at hl 0 rfl) ?_
      refine g_x_now hC fi_X7_count_X7 hK hX (wd9 hC 1 rfl) dX7_count_57 ?_
      refine gN_pcnt (k := 0) (by decide) hC fi_X7_count_X5 hK hX (hnf hK 0 rfl) dX7_count_60 (v := st_pcnt (x_now S)) rfl ?_
      refine r_ireturn hC hr hlk hX dX7_count_63 ?_
      exact ⟨⟨rfl, rfl, rfl, rfl, rfl, rfl, rfl, rfl, rfl, rfl, rfl⟩, Or.inr (Or.inr (Or.inl ⟨rfl, rfl⟩))⟩
    · refine lv_tableIn (tgt := 64) (off := 63) hC.1 hC.2.1 dX7_count_1 (by decide +kernel) (by decide +kernel) (by decide +kernel) (by decide) ?_
      refine lv_aload_n hC.1 hC.2.1 dX7_count_64 rfl (lv_at hl 0 rfl) ?_
      refine g_x_now hC fi_X7_count_X7 hK hX (wd9 hC 1 rfl) dX7_count_65 ?_
      refine gN_most (k := 0) (by decide) hC fi_X7_count_X5 hK hX (hnf hK 1 rfl) dX7_count_68 (v := st_most (x_now S)) rfl ?_
      refine r_ireturn hC hr hlk hX dX7_count_71 ?_
      exact ⟨⟨rfl, rfl, rfl, rfl, rfl, rfl, rfl, rfl, rfl, rfl, rfl⟩, Or.inr (Or.inr (Or.inr (Or.inl ⟨rfl, rfl⟩)))⟩
    · refine lv_tableIn (tgt := 72) (off := 71) hC.1 hC.2.1 dX7_count_1 (by decide +kernel) (by decide +kernel) (by decide +kernel) (by decide) ?_
      refine lv_aload_n hC.1 hC.2.1 dX7_count_72 rfl (lv_at hl 0 rfl) ?_
      refine cv_I (As := []) (rest := []) hC hK hA hX (c_X7_countAllEnds l G ad (S) hokk hd0) (cwV 0 hC.2.2.2.2 gX7_count_X7_countAllEnds rfl rfl rfl hd_X7_countAllEnds ⟨Nat.le_of_ble_eq_true rfl, Nat.le_of_ble_eq_true rfl⟩) (ci := 7) (q := (RX7, TX7, 8)) rfl (q0 := 34) rfl dX7_count_73 rfl hl.1 rfl (Nat.le_of_ble_eq_true rfl) ⟨(Nat.zero_le _), (Nat.zero_le _)⟩ (fun r9 S9 H locs hp9 hX => ?_)
      obtain ⟨h9, hscr⟩ := hp9
      obtain rfl : r9 = nI (sumN (allE S) 6) := h9
      replace hX : HH G A s.heap (wX G ad (S9)) H locs := hX
      refine r_ireturn hC hr hlk hX dX7_count_76 ?_
      exact ⟨hscr, Or.inr (Or.inr (Or.inr (Or.inr (Or.inl ⟨rfl, rfl⟩))))⟩
    · refine lv_tableIn (tgt := 77) (off := 76) hC.1 hC.2.1 dX7_count_1 (by decide +kernel) (by decide +kernel) (by decide +kernel) (by decide) ?_
      refine lv_aload_n hC.1 hC.2.1 dX7_count_77 rfl (lv_at hl 0 rfl) ?_
      refine cv_I (As := []) (rest := []) hC hK hA hX (c_X7_countPlacesWithEnds l G ad (S) hokk hd0) (cwV 0 hC.2.2.2.2 gX7_count_X7_countPlacesWithEnds rfl rfl rfl hd_X7_countPlacesWithEnds ⟨Nat.le_of_ble_eq_true rfl, Nat.le_of_ble_eq_true rfl⟩) (ci := 7) (q := (RX7, TX7, 8)) rfl (q0 := 34) rfl dX7_count_78 rfl hl.1 rfl (Nat.le_of_ble_eq_true rfl) ⟨(Nat.zero_le _), (Nat.zero_le _)⟩ (fun r9 S9 H locs hp9 hX => ?_)
      obtain ⟨h9, hscr⟩ := hp9
      obtain rfl : r9 = nI (cS (anyE S 6) 121) := h9
      replace hX : HH G A s.heap (wX G ad (S9)) H locs := hX
      refine r_ireturn hC hr hlk hX dX7_count_81 ?_
      exact ⟨hscr, Or.inr (Or.inr (Or.inr (Or.inr (Or.inr (Or.inl ⟨rfl, rfl⟩)))))⟩
    · refine lv_tableIn (tgt := 82) (off := 81) hC.1 hC.2.1 dX7_count_1 (by decide +kernel) (by decide +kernel) (by decide +kernel) (by decide) ?_
      refine lv_aload_n hC.1 hC.2.1 dX7_count_82 rfl (lv_at hl 0 rfl) ?_
      refine g_x_now hC fi_X7_count_X7 hK hX (wd9 hC 1 rfl) dX7_count_83 ?_
      refine cv_I (As := []) (rest := []) hC hK hA hX (c_X5_countBlanks l G ad (S) hTn hT.1) (cwV 0 hC.2.2.2.2 gX7_count_X5_countBlanks rfl rfl rfl hd_X5_countBlanks ⟨Nat.le_of_ble_eq_true rfl, Nat.le_of_ble_eq_true rfl⟩) (ci := 5) (q := (RX5, TX5, 5)) rfl (q0 := 0) rfl dX7_count_86 rfl hl.1 rfl (Nat.le_of_ble_eq_true rfl) ⟨(Nat.zero_le _), (Nat.zero_le _)⟩ (fun r9 S9 H locs hp9 hX => ?_)
      obtain ⟨rfl, hS9⟩ := hp9
      rw [hS9] at hX
      replace hX : HH G A s.heap (wX G ad (S)) H locs := hX
      refine r_ireturn hC hr hlk hX dX7_count_89 ?_
      exact ⟨⟨rfl, rfl, rfl, rfl, rfl, rfl, rfl, rfl, rfl, rfl, rfl⟩, Or.inr (Or.inr (Or.inr (Or.inr (Or.inr (Or.inr (Or.inl ⟨rfl, rfl⟩))))))⟩
    · refine lv_tableIn (tgt := 90) (off := 89) hC.1 hC.2.1 dX7_count_1 (by decide +kernel) (by decide +kernel) (by decide +kernel) (by decide) ?_
      refine lv_aload_n hC.1 hC.2.1 dX7_count_90 rfl (lv_at hl 0 rfl) ?_
      refine g_x_history hC fi_X7_count_X7 hK hX (wd9 hC 2 rfl) dX7_count_91 ?_
      refine gN_hist_count hC fi_X7_count_X0 hK hX (hnf hK 2 rfl) dX7_count_94 (v := x_hcnt S) rfl ?_
      refine r_ireturn hC hr hlk hX dX7_count_97 ?_
      exact ⟨⟨rfl, rfl, rfl, rfl, rfl, rfl, rfl, rfl, rfl, rfl, rfl⟩, Or.inr (Or.inr (Or.inr (Or.inr (Or.inr (Or.inr (Or.inr (Or.inl ⟨rfl, rfl⟩)))))))⟩
    · refine lv_tableIn (tgt := 98) (off := 97) hC.1 hC.2.1 dX7_count_1 (by decide +kernel) (by decide +kernel) (by decide +kernel) (by decide) ?_
      refine lv_aload_n hC.1 hC.2.1 dX7_count_98 rfl (lv_at hl 0 rfl) ?_
      refine g_x_pad hC fi_X7_count_X7 hK hX (wd9 hC 3 rfl) dX7_count_99 ?_
      refine gN_pad_length hC fi_X7_count_X1 hK hX (hnf hK 6 rfl) dX7_count_102 (v := x_plen S) rfl ?_
      refine r_ireturn hC hr hlk hX dX7_count_105 ?_
      exact ⟨⟨rfl, rfl, rfl, rfl, rfl, rfl, rfl, rfl, rfl, rfl, rfl⟩, Or.inr (Or.inr (Or.inr (Or.inr (Or.inr (Or.inr (Or.inr (Or.inr ⟨rfl, rfl⟩)))))))⟩
