theorem fi_X8_isPattern_X8 : ∀ w ∈ wsX80, w ∈ wsX8_isPattern := by decide +kernel
set_option maxHeartbeats 4000000 in
set_option maxRecDepth 100000 in
theorem c_X8_isPattern (l : Launch) (G : GX) (am : Nat → Nat) (S : MS) (hok : okA (m_all S)) (p0 : Int32) : CtI l yX8_isPattern wsX8_isPattern { frames := 1, cells := 0, slots := 0, locals := 25 } G (wM G am) (S) [.ref (am 0), .int (p0)] (fun r S' => r = bI (isPm (m_all S) p0) ∧ S' = S) 0 0 := by
  refine CtI.of (cc := cX8_isPattern) (maxL := 2) (ret := some .boolean) (by decide +kernel) rfl (Nat.le_of_ble_eq_true rfl) ?_
  intro p e s m args below meth c ls A hC hr hlk hin hK hA hX hl
  have hl : lv_has ls 2 [(0, .ref (am 0)), (1, .int (p0))] := hl
  have hokk := hok
  obtain ⟨hLn, hPc, hMs, hTx, hPt⟩ := hok
  refine lv_iload_n hC.1 hC.2.1 dX8_isPattern_0 rfl (lv_at hl 1 rfl) ?_
  refine lv_i2l hC.1 hC.2.1 dX8_isPattern_1 rfl ?_
  refine lv_lconst (v := lN 0) hC.1 hC.2.1 dX8_isPattern_2 rfl ?_
  refine lv_aload_n hC.1 hC.2.1 dX8_isPattern_3 rfl (lv_at hl 0 rfl) ?_
  refine g_m_all hC fi_X8_isPattern_X8 hK hX (wd9 hC 1 rfl) dX8_isPattern_4 ?_
  refine lv_iconst (v := nI (1)) hC.1 hC.2.1 dX8_isPattern_7 rfl ?_
  refine l_m_all hC hK hX (i := 1) (by decide) dX8_isPattern_8 (v := aPc (m_all S)) rfl ?_
  refine lv_i2l (v := lN (aPc (m_all S))) hC.1 hC.2.1 dX8_isPattern_9 (nI_l (by omega)) ?_
  refine lv_lconst (v := lN 1) hC.1 hC.2.1 dX8_isPattern_10 rfl ?_
  refine lv_lsub hC.1 hC.2.1 dX8_isPattern_11 ?_
  refine ps_I (As := [.long (p0.toInt64), .long (lN 0), .long ((lN (aPc (m_all S))) - (lN 1))]) (rest := []) hC hK hA hX (c_X8_in l G (p0.toInt64) (lN 0) ((lN (aPc (m_all S))) - (lN 1))) (va_cwS 3 hC.2.2.2.2 gX8_isPattern_X8_in rfl rfl rfl hd_X8_in_s ⟨Nat.le_of_ble_eq_true rfl, Nat.le_of_ble_eq_true rfl⟩) dX8_isPattern_12 rfl hl.1 rfl (Nat.le_of_ble_eq_true rfl) ⟨(Nat.zero_le _), (Nat.zero_le _)⟩ (fun r9 S9 H locs hp9 hX => ?_)
  obtain rfl : r9 = bI (isPm (m_all S) p0) := by rw [hp9, isPm_eq hPc]
  replace hX : HH G A s.heap (wM G am (S)) H locs := hX
  refine r_zreturn hC hr hlk hX dX8_isPattern_15 (nar_bool _) ?_
  exact ⟨rfl, rfl⟩
set_option maxHeartbeats 4000000 in
set_option maxRecDepth 100000 in
theorem c_X8_coded (l : Launch) (G : GX) (c0 : Nat) (hc0 : c0 < 65536) : CtI l yX8_coded wsX8_coded { frames := 1, cells := 0, slots := 0, locals := 25 } G wP (()) [.int (nI (c0))] (fun r _ => r = codeI c0) 0 0 := by
  refine CtI.of (cc := cX8_coded) (maxL := 1) (ret := some .int) (by decide +kernel) rfl (Nat.le_of_ble_eq_true rfl) ?_
  intro p e s m args below meth c ls A hC hr hlk hin hK hA hX hl
  have hl : lv_has ls 1 [(0, .int (nI (c0)))] := hl
  refine lv_iload_n hC.1 hC.2.1 dX8_coded_0 rfl (lv_at hl 0 rfl) ?_
  have join34 : ∀ (H : Heap) (locs : List Loc) (ls : Array Slot), HH G A s.heap (wP ()) H locs → lv_has ls 1 [(0, .int (nI (c0)))] → W p l e { frames := 1, cells := 0, slots := 0, locals := 25 } s m args below meth c H locs 0 0 (EndI G wP A (fun r _ => r = codeI c0) below args s 0 0) (F0 m 34 ls [.int (codeI c0)]) := by
    intro  H locs ls  hX hl
    refine r_ireturn hC hr hlk hX dX8_coded_34 ?_
    exact rfl
  refine lv_bipush (v := nI (32)) hC.1 hC.2.1 dX8_coded_1 (by decide +kernel) ?_
  refine n_icmp_ne hC (a := c0) (b := 32) (tgt := 11) dX8_coded_3 (by decide) (by omega) (by decide) (fun c3 => ?_) (fun c3 => ?_)
  · skip
    refine lv_iload_n hC.1 hC.2.1 dX8_coded_11 rfl (lv_at hl 0 rfl) ?_
    refine lv_i2l (v := lN (c0)) hC.1 hC.2.1 dX8_coded_12 (nI_l (by omega)) ?_
    refine lv_ldc2 (v := (97 : Int64)) hC.1 hC.2.1 hC.2.2.2.1 (wd9 hC 1 rfl) dX8_coded_13 ?_
    refine lv_ldc2 (v := (122 : Int64)) hC.1 hC.2.1 hC.2.2.2.1 (wd9 hC 2 rfl) dX8_coded_16 ?_
    refine ps_I (As := [.long (lN (c0)), .long ((97 : Int64)), .long ((122 : Int64))]) (rest := []) hC hK hA hX (c_X8_in l G (lN (c0)) ((97 : Int64)) ((122 : Int64))) (va_cwS 3 hC.2.2.2.2 gX8_coded_X8_in rfl rfl rfl hd_X8_in_s ⟨Nat.le_of_ble_eq_true rfl, Nat.le_of_ble_eq_true rfl⟩) dX8_coded_19 rfl hl.1 rfl (Nat.le_of_ble_eq_true rfl) ⟨(Nat.zero_le _), (Nat.zero_le _)⟩ (fun r9 S9 H locs hp9 hX => ?_)
    obtain rfl : r9 = bI (isLet c0) := by rw [hp9, (show inL (lN c0) (97 : Int64) (122 : Int64) = isLet c0 from inL_n (c := 122) (b := 97) (by omega) (by decide) (by decide))]
    replace hX : HH G A s.heap (wP ()) H locs := hX
    refine b_if_eq hC (b := isLet c0) (tgt := 32) dX8_coded_22 (by decide) (fun c22 => ?_) (fun c22 => ?_)
    · skip
      refine lv_bipush (v := (-5)) hC.1 hC.2.1 dX8_coded_32 (by decide +kernel) ?_
      refine n_top (y := codeI c0) (by unfold codeI; first | rw [if_pos c3] | (rw [if_neg c3, if_pos c22]) | (rw [if_neg c3, if_neg (by rw [c22]; decide)])) ?_
      refine join34  _ _ ls  hX (lv_sub hl [0] rfl)
    · skip
      refine lv_iload_n hC.1 hC.2.1 dX8_coded_25 rfl (lv_at hl 0 rfl) ?_
      refine lv_bipush (v := nI (97)) hC.1 hC.2.1 dX8_coded_26 (by decide +kernel) ?_
      refine n_sub hC (a := c0) (b := 97) dX8_coded_28 (by have := isLet_ge c22; omega) ?_
      refine lv_goto (tgt := 34) hC.1 hC.2.1 dX8_coded_29 (by decide) ?_
      refine n_top (y := codeI c0) (by unfold codeI; first | rw [if_pos c3] | (rw [if_neg c3, if_pos c22]) | (rw [if_neg c3, if_neg (by rw [c22]; decide)])) ?_
      refine join34  _ _ ls  hX (lv_sub hl [0] rfl)
  · skip
    refine lv_bipush (v := nI (26)) hC.1 hC.2.1 dX8_coded_6 (by decide +kernel) ?_
    refine lv_goto (tgt := 34) hC.1 hC.2.1 dX8_coded_8 (by decide) ?_
    refine n_top (y := codeI c0) (by unfold codeI; first | rw [if_pos c3] | (rw [if_neg c3, if_pos c22]) | (rw [if_neg c3, if_neg (by rw [c22]; decide)])) ?_
    refine join34  _ _ ls  hX (lv_sub hl [0] rfl)
theorem hd_X8_finds : yX8_finds.cls = RX8 ∧ yX8_finds.cls ≠ "java/lang/invoke/MethodHandle" ∧ yX8_finds.cls ≠ "java/lang/invoke/VarHandle" ∧ (parseMethodDescriptor yX8_finds.desc).map (fun d => d.parameters.length) = some 1 := by decide +kernel
theorem fi_X8_findsEnds_X8 : ∀ w ∈ wsX80, w ∈ wsX8_findsEnds := by decide +kernel
set_option maxHeartbeats 4000000 in
set_option maxRecDepth 100000 in
theorem c_X8_findsEnds (l : Launch) (G : GX) (am : Nat → Nat) (S : MS) (hok : okA (m_all S)) (p0 : Nat) (hp0 : p0 < 6) (a0 : Bool) : CtV l yX8_findsEnds wsX8_findsEnds { frames := 3, cells := 0, slots := 0, locals := 69 } G (wM G am) (S) [.ref (am 0), .int (nI (p0)), .int (bI (a0))] (fun S' => ∃ fw bg ef, S' = w_nends (w_endAt (w_begin (w_fewest S fw) bg) ef) (cS (selAM (m_all S) p0 a0) (aLen (m_all S) + 1)) ∧ LR ef (selAM (m_all S) p0 a0) (aLen (m_all S) + 1) ∧ ∀ ee, ee ≤ aLen (m_all S) → cellK fw bg (121 * aPl (m_all S) p0 + ee) (kM (m_all S) p0 ee)) 0 0 := by
  refine CtV.of (cc := cX8_findsEnds) (maxL := 6) (ret := none) (by decide +kernel) rfl (Nat.le_of_ble_eq_true rfl) ?_
  intro p e s m args below meth c ls A hC hr hlk hin hK hA hX hl
  have hl : lv_has ls 6 [(0, .ref (am 0)), (1, .int (nI (p0))), (2, .int (bI (a0)))] := hl
  have hokk := hok
  obtain ⟨hLn, hPc, hMs, hTx, hPt⟩ := hok
  obtain ⟨hpl, hbd, htk⟩ := hPt p0 hp0
  refine lv_aload_n hC.1 hC.2.1 dX8_findsEnds_0 rfl (lv_at hl 0 rfl) ?_
  refine lv_iload_n hC.1 hC.2.1 dX8_findsEnds_1 rfl (lv_at hl 1 rfl) ?_
  refine cv_V (As := [.int (nI (p0))]) (rest := []) hC hK hA hX (c_X8_finds l G am (S) (p0) hp0 hpl hLn hTx (by omega) (fun j hj => Nat.lt_trans (htk j hj) (by decide))) (cwV 1 hC.2.2.2.2 gX8_findsEnds_X8_finds rfl rfl rfl hd_X8_finds ⟨Nat.le_of_ble_eq_true rfl, Nat.le_of_ble_eq_true rfl⟩) (ci := 8) (q := (RX8, TX8, 21)) rfl (q0 := 0) rfl dX8_findsEnds_2 rfl hl.1 rfl (Nat.le_of_ble_eq_true rfl) ⟨(Nat.zero_le _), (Nat.zero_le _)⟩ (fun S9 H locs hp9 hX => ?_)
  obtain ⟨f2, g2, hS9, hfin2⟩ := hp9
  rw [hS9] at hX
  replace hX : HH G A s.heap (wM G am (w_begin (w_fewest (S) (f2)) (g2))) H locs := hX
  have hck : ∀ ee, ee ≤ aLen (m_all S) → cellK f2 g2 (121 * aPl (m_all S) p0 + ee) (kM (m_all S) p0 ee) := fun ee he => hfin2 _ ee (Nat.le_refl _) he
  refine lv_aload_n hC.1 hC.2.1 dX8_findsEnds_5 rfl (lv_at hl 0 rfl) ?_
  refine lv_iconst (v := nI (0)) hC.1 hC.2.1 dX8_findsEnds_6 rfl ?_
  refine p_m_nends hC fi_X8_findsEnds_X8 hK hX (v := 0) (wd9 hC 1 rfl) dX8_findsEnds_7 (fun H locs hX => ?_)
  replace hX : HH G A s.heap (wM G am (w_nends (w_begin (w_fewest (S) (f2)) (g2)) (0))) H locs := hX
  refine lv_bipush (v := nI (121)) hC.1 hC.2.1 dX8_findsEnds_10 (by decide +kernel) ?_
  refine lv_aload_n hC.1 hC.2.1 dX8_findsEnds_12 rfl (lv_at hl 0 rfl) ?_
  refine lv_iload_n hC.1 hC.2.1 dX8_findsEnds_13 rfl (lv_at hl 1 rfl) ?_
  refine cv_I (As := [.int (nI (p0))]) (rest := [.int (nI (121))]) hC hK hA hX (c_X8_places l G am (w_nends (w_begin (w_fewest (S) (f2)) (g2)) (0)) (p0) hp0) (cwV 1 hC.2.2.2.2 gX8_findsEnds_X8_places rfl rfl rfl hd_X8_places ⟨Nat.le_of_ble_eq_true rfl, Nat.le_of_ble_eq_true rfl⟩) (ci := 8) (q := (RX8, TX8, 21)) rfl (q0 := 0) rfl dX8_findsEnds_14 rfl hl.1 rfl (Nat.le_of_ble_eq_true rfl) ⟨(Nat.zero_le _), (Nat.zero_le _)⟩ (fun r9 S9 H locs hp9 hX => ?_)
  obtain ⟨rfl, hS9⟩ := hp9
  rw [hS9] at hX
  replace hX : HH G A s.heap (wM G am (w_nends (w_begin (w_fewest (S) (f2)) (g2)) (0))) H locs := hX
  refine n_mul hC (a := 121) (b := aPl (m_all S) (p0)) dX8_findsEnds_17 ?_
  refine lv_istore_n (lv' := [(3, .int (nI ((121) * (aPl (m_all S) (p0))))), (0, .ref (am 0)), (1, .int (nI (p0))), (2, .int (bI (a0)))]) hC.1 hC.2.1 dX8_findsEnds_18 rfl hl (by decide) rfl (fun ls hl => ?_)
  refine lv_iconst (v := nI (0)) hC.1 hC.2.1 dX8_findsEnds_19 rfl ?_
  refine lv_istore (lv' := [(4, .int (nI (0))), (3, .int (nI ((121) * (aPl (m_all S) (p0))))), (0, .ref (am 0)), (1, .int (nI (p0))), (2, .int (bI (a0)))]) hC.1 hC.2.1 dX8_findsEnds_20 hl (by decide) rfl (fun ls hl => ?_)
  have loop22 : ∀ (n9 : Nat) (ee : Nat) (f : Nat → Nat) (cn : Nat), (ee ≤ aLen (m_all S) + 1) → (seI a0 (selM (m_all S) p0) (bM (m_all S) p0) f ee cn) → aLen (m_all S) + 1 - ee < n9 → ∀ (H : Heap) (locs : List Loc) (ls : Array Slot), HH G A s.heap (wM G am (w_nends (w_endAt (w_begin (w_fewest (S) (f2)) (g2)) (f)) (cn))) H locs → lv_has ls 6 [(4, .int (nI (ee))), (3, .int (nI ((121) * (aPl (m_all S) (p0))))), (0, .ref (am 0)), (1, .int (nI (p0))), (2, .int (bI (a0)))] → W p l e { frames := 3, cells := 0, slots := 0, locals := 69 } s m args below meth c H locs 0 0 (EndV G (wM G am) A (fun S' => ∃ fw bg ef, S' = w_nends (w_endAt (w_begin (w_fewest S fw) bg) ef) (cS (selAM (m_all S) p0 a0) (aLen (m_all S) + 1)) ∧ LR ef (selAM (m_all S) p0 a0) (aLen (m_all S) + 1) ∧ ∀ ee, ee ≤ aLen (m_all S) → cellK fw bg (121 * aPl (m_all S) p0 + ee) (kM (m_all S) p0 ee)) below args s 0 0) (F0 m 22 ls []) := by
    intro n9
    induction n9 with
    | zero => intro ee f cn he hse hn9; exact absurd hn9 (Nat.not_lt_zero _)
    | succ n9 ih22 =>
      intro ee f cn he hse hn9 H locs ls hX hl
      obtain ⟨hcn, hfl⟩ := seI_lt hse
      have hdl := dM_le (m_all S) p0 ee
      have hbl : bM (m_all S) p0 ee ≤ 127 := Nat.sub_le _ _
      refine lv_iload hC.1 hC.2.1 dX8_findsEnds_22 (lv_at hl 0 rfl) ?_
      refine lv_aload_n hC.1 hC.2.1 dX8_findsEnds_24 rfl (lv_at hl 2 rfl) ?_
      refine g_m_all hC fi_X8_findsEnds_X8 hK hX (wd9 hC 2 rfl) dX8_findsEnds_25 ?_
      refine lv_iconst (v := nI (0)) hC.1 hC.2.1 dX8_findsEnds_28 rfl ?_
      refine l_m_all hC hK hX (i := 0) (by decide) dX8_findsEnds_29 (v := aLen (m_all S)) rfl ?_
      refine n_icmp_gt hC (a := ee) (b := aLen (m_all S)) (tgt := 124) dX8_findsEnds_30 (by decide) (by omega) (by omega) (fun c30 => ?_) (fun c30 => ?_)
      · skip
        refine r_return hC hr hlk hX dX8_findsEnds_124 ?_
        obtain rfl : ee = aLen (m_all S) + 1 := by omega
        obtain ⟨rfl, hL9⟩ := seI_end hse
        exact ⟨f2, g2, f, rfl, hL9, hck⟩
      · skip
        refine lv_aload_n hC.1 hC.2.1 dX8_findsEnds_33 rfl (lv_at hl 2 rfl) ?_
        refine g_m_fewest hC fi_X8_findsEnds_X8 hK hX (wd9 hC 3 rfl) dX8_findsEnds_34 ?_
        refine lv_iload_n hC.1 hC.2.1 dX8_findsEnds_37 rfl (lv_at hl 1 rfl) ?_
        refine lv_iload hC.1 hC.2.1 dX8_findsEnds_38 (lv_at hl 0 rfl) ?_
        refine n_add hC (a := (121) * (aPl (m_all S) (p0))) (b := ee) dX8_findsEnds_40 ?_
        refine l_m_fewest hC hK hX (i := ((121) * (aPl (m_all S) (p0))) + (ee)) (by omega) dX8_findsEnds_41 (v := dM (m_all S) p0 ee) (hck ee (by omega)).1 ?_
        refine lv_aload_n hC.1 hC.2.1 dX8_findsEnds_42 rfl (lv_at hl 2 rfl) ?_
        refine g_m_all hC fi_X8_findsEnds_X8 hK hX (wd9 hC 2 rfl) dX8_findsEnds_43 ?_
        refine lv_iconst (v := nI (2)) hC.1 hC.2.1 dX8_findsEnds_46 rfl ?_
        refine l_m_all hC hK hX (i := 2) (by decide) dX8_findsEnds_47 (v := aMost (m_all S)) rfl ?_
        have join56 : ∀ (H : Heap) (locs : List Loc) (ls : Array Slot), HH G A s.heap (wM G am (w_nends (w_endAt (w_begin (w_fewest (S) (f2)) (g2)) (f)) (cn))) H locs → lv_has ls 6 [(4, .int (nI (ee))), (3, .int (nI ((121) * (aPl (m_all S) (p0))))), (0, .ref (am 0)), (1, .int (nI (p0))), (2, .int (bI (a0)))] → W p l e { frames := 3, cells := 0, slots := 0, locals := 69 } s m args below meth c H locs 0 0 (EndV G (wM G am) A (fun S' => ∃ fw bg ef, S' = w_nends (w_endAt (w_begin (w_fewest S fw) bg) ef) (cS (selAM (m_all S) p0 a0) (aLen (m_all S) + 1)) ∧ LR ef (selAM (m_all S) p0 a0) (aLen (m_all S) + 1) ∧ ∀ ee, ee ≤ aLen (m_all S) → cellK fw bg (121 * aPl (m_all S) p0 + ee) (kM (m_all S) p0 ee)) below args s 0 0) (F0 m 56 ls [.int (bI (selM (m_all S) p0 ee))]) := by
          intro  H locs ls  hX hl
          refine lv_istore (lv' := [(5, .int (bI (selM (m_all S) p0 ee))), (4, .int (nI (ee))), (3, .int (nI ((121) * (aPl (m_all S) (p0))))), (0, .ref (am 0)), (1, .int (nI (p0))), (2, .int (bI (a0)))]) hC.1 hC.2.1 dX8_findsEnds_56 hl (by decide) rfl (fun ls hl => ?_)
          refine lv_iload hC.1 hC.2.1 dX8_findsEnds_58 (lv_at hl 0 rfl) ?_
          refine b_if_eq hC (b := selM (m_all S) p0 ee) (tgt := 118) dX8_findsEnds_60 (by decide) (fun c60 => ?_) (fun c60 => ?_)
          · skip
            refine lv_iinc (v := nI (ee + 1)) (lv' := [(4, .int (nI (ee + 1))), (5, .int (bI (selM (m_all S) p0 ee))), (3, .int (nI ((121) * (aPl (m_all S) (p0))))), (0, .ref (am 0)), (1, .int (nI (p0))), (2, .int (bI (a0)))]) hC.1 hC.2.1 dX8_findsEnds_118 hl (k := 1) rfl (n_inc1 _) (by decide) rfl (fun ls hl => ?_)
            refine lv_goto (tgt := 22) hC.1 hC.2.1 dX8_findsEnds_121 (by decide) ?_
            refine ih22 (ee + 1) (f) (cn) ?_ ?_ ?_ _ _ ls hX (lv_sub hl [0, 2, 3, 4, 5] rfl)
            · omega
            · first | exact seI_t hse c60 (fun ha => by first | exact Or.inl c71 | exact Or.inr (by have h9 := (not_congr (nI_ltI (by omega) (by have := hfl (cn - 1) (by omega); omega))).mp c94; omega) | (rw [ha] at c64; exact absurd c64 (by decide))) | exact seI_f1 hse c60 | exact seI_f2 hse c64 c71 ((nI_ltI (by omega) (by have := hfl (cn - 1) (by omega); omega)).mp c94)
            · omega
          · skip
            refine lv_iload_n hC.1 hC.2.1 dX8_findsEnds_63 rfl (lv_at hl 5 rfl) ?_
            refine b_if_eq hC (b := a0) (tgt := 97) dX8_findsEnds_64 (by decide) (fun c64 => ?_) (fun c64 => ?_)
            · skip
              refine lv_aload_n hC.1 hC.2.1 dX8_findsEnds_97 rfl (lv_at hl 3 rfl) ?_
              refine g_m_endAt hC fi_X8_findsEnds_X8 hK hX (wd9 hC 5 rfl) dX8_findsEnds_98 ?_
              refine lv_aload_n hC.1 hC.2.1 dX8_findsEnds_101 rfl (lv_at hl 3 rfl) ?_
              refine g_m_nends hC fi_X8_findsEnds_X8 hK hX (wd9 hC 1 rfl) dX8_findsEnds_102 (v := cn) rfl ?_
              refine lv_iload hC.1 hC.2.1 dX8_findsEnds_105 (lv_at hl 1 rfl) ?_
              refine s_m_endAt hC hK hX (i := cn) (v := ee) (by omega) dX8_findsEnds_107 (fun H locs hX => ?_)
              replace hX : HH G A s.heap (wM G am (w_nends (w_endAt (w_begin (w_fewest (S) (f2)) (g2)) (va_up (f) (cn) (ee))) (cn))) H locs := hX
              refine lv_aload_n hC.1 hC.2.1 dX8_findsEnds_108 rfl (lv_at hl 3 rfl) ?_
              refine lv_dup hC.1 hC.2.1 dX8_findsEnds_109 rfl ?_
              refine g_m_nends hC fi_X8_findsEnds_X8 hK hX (wd9 hC 1 rfl) dX8_findsEnds_110 (v := cn) rfl ?_
              refine lv_iconst (v := nI (1)) hC.1 hC.2.1 dX8_findsEnds_113 rfl ?_
              refine n_add hC (a := cn) (b := 1) dX8_findsEnds_114 ?_
              refine p_m_nends hC fi_X8_findsEnds_X8 hK hX (v := cn + 1) (wd9 hC 1 rfl) dX8_findsEnds_115 (fun H locs hX => ?_)
              replace hX : HH G A s.heap (wM G am (w_nends (w_endAt (w_begin (w_fewest (S) (f2)) (g2)) (va_up (f) (cn) (ee))) (cn + 1))) H locs := hX
              refine lv_iinc (v := nI (ee + 1)) (lv' := [(4, .int (nI (ee + 1))), (5, .int (bI (selM (m_all S) p0 ee))), (3, .int (nI ((121) * (aPl (m_all S) (p0))))), (0, .ref (am 0)), (1, .int (nI (p0))), (2, .int (bI (a0)))]) hC.1 hC.2.1 dX8_findsEnds_118 hl (k := 1) rfl (n_inc1 _) (by decide) rfl (fun ls hl => ?_)
              refine lv_goto (tgt := 22) hC.1 hC.2.1 dX8_findsEnds_121 (by decide) ?_
              refine ih22 (ee + 1) (va_up (f) (cn) (ee)) (cn + 1) ?_ ?_ ?_ _ _ ls hX (lv_sub hl [0, 2, 3, 4, 5] rfl)
              · omega
              · first | exact seI_t hse c60 (fun ha => by first | exact Or.inl c71 | exact Or.inr (by have h9 := (not_congr (nI_ltI (by omega) (by have := hfl (cn - 1) (by omega); omega))).mp c94; omega) | (rw [ha] at c64; exact absurd c64 (by decide))) | exact seI_f1 hse c60 | exact seI_f2 hse c64 c71 ((nI_ltI (by omega) (by have := hfl (cn - 1) (by omega); omega)).mp c94)
              · omega
            · skip
              refine lv_aload_n hC.1 hC.2.1 dX8_findsEnds_67 rfl (lv_at hl 3 rfl) ?_
              refine g_m_nends hC fi_X8_findsEnds_X8 hK hX (wd9 hC 1 rfl) dX8_findsEnds_68 (v := cn) rfl ?_
              refine n_if_eq hC (a := cn) (tgt := 97) dX8_findsEnds_71 (by decide) (by omega) (fun c71 => ?_) (fun c71 => ?_)
              · skip
                refine lv_aload_n hC.1 hC.2.1 dX8_findsEnds_97 rfl (lv_at hl 3 rfl) ?_
                refine g_m_endAt hC fi_X8_findsEnds_X8 hK hX (wd9 hC 5 rfl) dX8_findsEnds_98 ?_
                refine lv_aload_n hC.1 hC.2.1 dX8_findsEnds_101 rfl (lv_at hl 3 rfl) ?_
                refine g_m_nends hC fi_X8_findsEnds_X8 hK hX (wd9 hC 1 rfl) dX8_findsEnds_102 (v := cn) rfl ?_
                refine lv_iload hC.1 hC.2.1 dX8_findsEnds_105 (lv_at hl 1 rfl) ?_
                refine s_m_endAt hC hK hX (i := cn) (v := ee) (by omega) dX8_findsEnds_107 (fun H locs hX => ?_)
                replace hX : HH G A s.heap (wM G am (w_nends (w_endAt (w_begin (w_fewest (S) (f2)) (g2)) (va_up (f) (cn) (ee))) (cn))) H locs := hX
                refine lv_aload_n hC.1 hC.2.1 dX8_findsEnds_108 rfl (lv_at hl 3 rfl) ?_
                refine lv_dup hC.1 hC.2.1 dX8_findsEnds_109 rfl ?_
                refine g_m_nends hC fi_X8_findsEnds_X8 hK hX (wd9 hC 1 rfl) dX8_findsEnds_110 (v := cn) rfl ?_
                refine lv_iconst (v := nI (1)) hC.1 hC.2.1 dX8_findsEnds_113 rfl ?_
                refine n_add hC (a := cn) (b := 1) dX8_findsEnds_114 ?_
                refine p_m_nends hC fi_X8_findsEnds_X8 hK hX (v := cn + 1) (wd9 hC 1 rfl) dX8_findsEnds_115 (fun H locs hX => ?_)
                replace hX : HH G A s.heap (wM G am (w_nends (w_endAt (w_begin (w_fewest (S) (f2)) (g2)) (va_up (f) (cn) (ee))) (cn + 1))) H locs := hX
                refine lv_iinc (v := nI (ee + 1)) (lv' := [(4, .int (nI (ee + 1))), (5, .int (bI (selM (m_all S) p0 ee))), (3, .int (nI ((121) * (aPl (m_all S) (p0))))), (0, .ref (am 0)), (1, .int (nI (p0))), (2, .int (bI (a0)))]) hC.1 hC.2.1 dX8_findsEnds_118 hl (k := 1) rfl (n_inc1 _) (by decide) rfl (fun ls hl => ?_)
                refine lv_goto (tgt := 22) hC.1 hC.2.1 dX8_findsEnds_121 (by decide) ?_
                refine ih22 (ee + 1) (va_up (f) (cn) (ee)) (cn + 1) ?_ ?_ ?_ _ _ ls hX (lv_sub hl [0, 2, 3, 4, 5] rfl)
                · omega
                · first | exact seI_t hse c60 (fun ha => by first | exact Or.inl c71 | exact Or.inr (by have h9 := (not_congr (nI_ltI (by omega) (by have := hfl (cn - 1) (by omega); omega))).mp c94; omega) | (rw [ha] at c64; exact absurd c64 (by decide))) | exact seI_f1 hse c60 | exact seI_f2 hse c64 c71 ((nI_ltI (by omega) (by have := hfl (cn - 1) (by omega); omega)).mp c94)
                · omega
              · skip
                refine lv_aload_n hC.1 hC.2.1 dX8_findsEnds_74 rfl (lv_at hl 3 rfl) ?_
                refine g_m_begin hC fi_X8_findsEnds_X8 hK hX (wd9 hC 4 rfl) dX8_findsEnds_75 ?_
                refine lv_iload_n hC.1 hC.2.1 dX8_findsEnds_78 rfl (lv_at hl 2 rfl) ?_
                refine lv_iload hC.1 hC.2.1 dX8_findsEnds_79 (lv_at hl 1 rfl) ?_
                refine n_add hC (a := (121) * (aPl (m_all S) (p0))) (b := ee) dX8_findsEnds_81 ?_
                refine l_m_begin hC hK hX (i := ((121) * (aPl (m_all S) (p0))) + (ee)) (by omega) dX8_findsEnds_82 (v := nI (bM (m_all S) p0 ee)) (hck ee (by omega)).2 ?_
                refine lv_aload_n hC.1 hC.2.1 dX8_findsEnds_83 rfl (lv_at hl 3 rfl) ?_
                refine g_m_endAt hC fi_X8_findsEnds_X8 hK hX (wd9 hC 5 rfl) dX8_findsEnds_84 ?_
                refine lv_aload_n hC.1 hC.2.1 dX8_findsEnds_87 rfl (lv_at hl 3 rfl) ?_
                refine g_m_nends hC fi_X8_findsEnds_X8 hK hX (wd9 hC 1 rfl) dX8_findsEnds_88 (v := cn) rfl ?_
                refine lv_iconst (v := nI (1)) hC.1 hC.2.1 dX8_findsEnds_91 rfl ?_
                refine n_sub hC (a := cn) (b := 1) dX8_findsEnds_92 (by omega) ?_
                refine l_m_endAt hC hK hX (i := cn - 1) (by omega) dX8_findsEnds_93 (v := f (cn - 1)) rfl ?_
                refine lv_icmp_lt hC.1 hC.2.1 (x := nI (bM (m_all S) p0 ee)) (y := nI (f (cn - 1))) (tgt := 118) dX8_findsEnds_94 (by decide) (fun c94 => ?_) (fun c94 => ?_)
                · skip
                  refine lv_iinc (v := nI (ee + 1)) (lv' := [(4, .int (nI (ee + 1))), (5, .int (bI (selM (m_all S) p0 ee))), (3, .int (nI ((121) * (aPl (m_all S) (p0))))), (0, .ref (am 0)), (1, .int (nI (p0))), (2, .int (bI (a0)))]) hC.1 hC.2.1 dX8_findsEnds_118 hl (k := 1) rfl (n_inc1 _) (by decide) rfl (fun ls hl => ?_)
                  refine lv_goto (tgt := 22) hC.1 hC.2.1 dX8_findsEnds_121 (by decide) ?_
                  refine ih22 (ee + 1) (f) (cn) ?_ ?_ ?_ _ _ ls hX (lv_sub hl [0, 2, 3, 4, 5] rfl)
                  · omega
                  · first | exact seI_t hse c60 (fun ha => by first | exact Or.inl c71 | exact Or.inr (by have h9 := (not_congr (nI_ltI (by omega) (by have := hfl (cn - 1) (by omega); omega))).mp c94; omega) | (rw [ha] at c64; exact absurd c64 (by decide))) | exact seI_f1 hse c60 | exact seI_f2 hse c64 c71 ((nI_ltI (by omega) (by have := hfl (cn - 1) (by omega); omega)).mp c94)
                  · omega
                · skip
                  refine lv_aload_n hC.1 hC.2.1 dX8_findsEnds_97 rfl (lv_at hl 3 rfl) ?_
                  refine g_m_endAt hC fi_X8_findsEnds_X8 hK hX (wd9 hC 5 rfl) dX8_findsEnds_98 ?_
                  refine lv_aload_n hC.1 hC.2.1 dX8_findsEnds_101 rfl (lv_at hl 3 rfl) ?_
                  refine g_m_nends hC fi_X8_findsEnds_X8 hK hX (wd9 hC 1 rfl) dX8_findsEnds_102 (v := cn) rfl ?_
                  refine lv_iload hC.1 hC.2.1 dX8_findsEnds_105 (lv_at hl 1 rfl) ?_
                  refine s_m_endAt hC hK hX (i := cn) (v := ee) (by omega) dX8_findsEnds_107 (fun H locs hX => ?_)
                  replace hX : HH G A s.heap (wM G am (w_nends (w_endAt (w_begin (w_fewest (S) (f2)) (g2)) (va_up (f) (cn) (ee))) (cn))) H locs := hX
                  refine lv_aload_n hC.1 hC.2.1 dX8_findsEnds_108 rfl (lv_at hl 3 rfl) ?_
                  refine lv_dup hC.1 hC.2.1 dX8_findsEnds_109 rfl ?_
                  refine g_m_nends hC fi_X8_findsEnds_X8 hK hX (wd9 hC 1 rfl) dX8_findsEnds_110 (v := cn) rfl ?_
                  refine lv_iconst (v := nI (1)) hC.1 hC.2.1 dX8_findsEnds_113 rfl ?_
                  refine n_add hC (a := cn) (b := 1) dX8_findsEnds_114 ?_
                  refine p_m_nends hC fi_X8_findsEnds_X8 hK hX (v := cn + 1) (wd9 hC 1 rfl) dX8_findsEnds_115 (fun H locs hX => ?_)
                  replace hX : HH G A s.heap (wM G am (w_nends (w_endAt (w_begin (w_fewest (S) (f2)) (g2)) (va_up (f) (cn) (ee))) (cn + 1))) H locs := hX
                  refine lv_iinc (v := nI (ee + 1)) (lv' := [(4, .int (nI (ee + 1))), (5, .int (bI (selM (m_all S) p0 ee))), (3, .int (nI ((121) * (aPl (m_all S) (p0))))), (0, .ref (am 0)), (1, .int (nI (p0))), (2, .int (bI (a0)))]) hC.1 hC.2.1 dX8_findsEnds_118 hl (k := 1) rfl (n_inc1 _) (by decide) rfl (fun ls hl => ?_)
                  refine lv_goto (tgt := 22) hC.1 hC.2.1 dX8_findsEnds_121 (by decide) ?_
                  refine ih22 (ee + 1) (va_up (f) (cn) (ee)) (cn + 1) ?_ ?_ ?_ _ _ ls hX (lv_sub hl [0, 2, 3, 4, 5] rfl)
                  · omega
                  · first | exact seI_t hse c60 (fun ha => by first | exact Or.inl c71 | exact Or.inr (by have h9 := (not_congr (nI_ltI (by omega) (by have := hfl (cn - 1) (by omega); omega))).mp c94; omega) | (rw [ha] at c64; exact absurd c64 (by decide))) | exact seI_f1 hse c60 | exact seI_f2 hse c64 c71 ((nI_ltI (by omega) (by have := hfl (cn - 1) (by omega); omega)).mp c94)
                  · omega
        refine n_icmp_gt hC (a := dM (m_all S) p0 ee) (b := aMost (m_all S)) (tgt := 55) dX8_findsEnds_48 (by decide) (by omega) (by omega) (fun c48 => ?_) (fun c48 => ?_)
        · skip
          refine lv_iconst (v := nI (0)) hC.1 hC.2.1 dX8_findsEnds_55 rfl ?_
          refine n_top (y := bI (selM (m_all S) p0 ee)) (by first | exact bI_t (by omega) | exact bI_f (by omega)) ?_
          refine join56  _ _ ls  hX (lv_sub hl [0, 1, 2, 3, 4] rfl)
        · skip
          refine lv_iconst (v := nI (1)) hC.1 hC.2.1 dX8_findsEnds_51 rfl ?_
          refine lv_goto (tgt := 56) hC.1 hC.2.1 dX8_findsEnds_52 (by decide) ?_
          refine n_top (y := bI (selM (m_all S) p0 ee)) (by first | exact bI_t (by omega) | exact bI_f (by omega)) ?_
          refine join56  _ _ ls  hX (lv_sub hl [0, 1, 2, 3, 4] rfl)
  refine loop22 _ (0) (m_endAt S) (0) ?_ ?_ (Nat.lt_succ_self _) _ _ ls hX (lv_sub hl [0, 1, 2, 3, 4] rfl)
  · omega
  · exact seI_0
theorem hd_X8_findsEnds : yX8_findsEnds.cls = RX8 ∧ yX8_findsEnds.cls ≠ "java/lang/invoke/MethodHandle" ∧ yX8_findsEnds.cls ≠ "java/lang/invoke/VarHandle" ∧ (parseMethodDescriptor yX8_findsEnds.desc).map (fun d => d.parameters.length) = some 2 := by decide +kernel
theorem fi_X8_manyEnds_X8 : ∀ w ∈ wsX80, w ∈ wsX8_manyEnds := by decide +kernel
set_option maxHeartbeats 4000000 in
set_option maxRecDepth 100000 in
theorem c_X8_manyEnds (l : Launch) (G : GX) (am : Nat → Nat) (S : MS) (hok : okA (m_all S)) (p0 : Nat) (hp0 : p0 < 6) (a0 : Bool) : CtI l yX8_manyEnds wsX8_manyEnds { frames := 4, cells := 0, slots := 0, locals := 94 } G (wM G am) (S) [.ref (am 0), .int (nI (p0)), .int (bI (a0))] (fun r S' => (∃ fw bg ef, S' = w_nends (w_endAt (w_begin (w_fewest S fw) bg) ef) (cS (selAM (m_all S) p0 a0) (aLen (m_all S) + 1))) ∧ r = nI (cS (selAM (m_all S) p0 a0) (aLen (m_all S) + 1))) 0 0 := by
  refine CtI.of (cc := cX8_manyEnds) (maxL := 3) (ret := some .int) (by decide +kernel) rfl (Nat.le_of_ble_eq_true rfl) ?_
  intro p e s m args below meth c ls A hC hr hlk hin hK hA hX hl
  have hl : lv_has ls 3 [(0, .ref (am 0)), (1, .int (nI (p0))), (2, .int (bI (a0)))] := hl
  have hokk := hok
  obtain ⟨hLn, hPc, hMs, hTx, hPt⟩ := hok
  obtain ⟨hpl, hbd, htk⟩ := hPt p0 hp0
  refine lv_aload_n hC.1 hC.2.1 dX8_manyEnds_0 rfl (lv_at hl 0 rfl) ?_
  refine lv_iload_n hC.1 hC.2.1 dX8_manyEnds_1 rfl (lv_at hl 1 rfl) ?_
  refine lv_iload_n hC.1 hC.2.1 dX8_manyEnds_2 rfl (lv_at hl 2 rfl) ?_
  refine cv_V (As := [.int (nI (p0)), .int (bI (a0))]) (rest := []) hC hK hA hX (c_X8_findsEnds l G am (S) hokk (p0) hp0 a0) (cwV 2 hC.2.2.2.2 gX8_manyEnds_X8_findsEnds rfl rfl rfl hd_X8_findsEnds ⟨Nat.le_of_ble_eq_true rfl, Nat.le_of_ble_eq_true rfl⟩) (ci := 8) (q := (RX8, TX8, 21)) rfl (q0 := 0) rfl dX8_manyEnds_3 rfl hl.1 rfl (Nat.le_of_ble_eq_true rfl) ⟨(Nat.zero_le _), (Nat.zero_le _)⟩ (fun S9 H locs hp9 hX => ?_)
  obtain ⟨fw3, bg3, ef3, hS9, hLR3, hck3⟩ := hp9
  rw [hS9] at hX
  replace hX : HH G A s.heap (wM G am (w_nends (w_endAt (w_begin (w_fewest (S) (fw3)) (bg3)) (ef3)) (cS (selAM (m_all S) (p0) a0) (aLen (m_all S) + 1)))) H locs := hX
  replace hLR3 : LR ef3 (selAM (m_all S) (p0) a0) (aLen (m_all S) + 1) := hLR3
  replace hck3 : ∀ ee, ee ≤ aLen (m_all S) → cellK fw3 bg3 (121 * aPl (m_all S) (p0) + ee) (kM (m_all S) (p0) ee) := hck3
  have hcl3 := cS_le (selAM (m_all S) (p0) a0) (aLen (m_all S) + 1)
  have hes3 : ∀ r, r < cS (selAM (m_all S) (p0) a0) (aLen (m_all S) + 1) → ef3 r < aLen (m_all S) + 1 ∧ dM (m_all S) (p0) (ef3 r) = gM (m_all S) (p0) ef3 r := fun r hr => gM_eq hMs hLR3 hr
  refine lv_aload_n hC.1 hC.2.1 dX8_manyEnds_6 rfl (lv_at hl 0 rfl) ?_
  refine g_m_nends hC fi_X8_manyEnds_X8 hK hX (wd9 hC 1 rfl) dX8_manyEnds_7 (v := cS (selAM (m_all S) (p0) a0) (aLen (m_all S) + 1)) rfl ?_
  refine r_ireturn hC hr hlk hX dX8_manyEnds_10 ?_
  exact ⟨⟨_, _, _, rfl⟩, rfl⟩
theorem fi_X8_allEnds_X8 : ∀ w ∈ wsX80, w ∈ wsX8_allEnds := by decide +kernel
theorem hd_X8_manyEnds : yX8_manyEnds.cls = RX8 ∧ yX8_manyEnds.cls ≠ "java/lang/invoke/MethodHandle" ∧ yX8_manyEnds.cls ≠ "java/lang/invoke/VarHandle" ∧ (parseMethodDescriptor yX8_manyEnds.desc).map (fun d => d.parameters.length) = some 2 := by decide +kernel
set_option maxHeartbeats 4000000 in
set_option maxRecDepth 100000 in
theorem c_X8_allEnds (l : Launch) (G : GX) (am : Nat → Nat) (S : MS) (hok : okA (m_all S)) : CtI l yX8_allEnds wsX8_allEnds { frames := 5, cells := 0, slots := 0, locals := 116 } G (wM G am) (S) [.ref (am 0)] (fun r S' => (∃ fw bg ef ne, S' = w_nends (w_endAt (w_begin (w_fewest S fw) bg) ef) ne) ∧ r = nI (sumN (fun p => cS (selAM (m_all S) p false) (aLen (m_all S) + 1)) (aPc (m_all S)))) 0 0 := by
  refine CtI.of (cc := cX8_allEnds) (maxL := 3) (ret := some .int) (by decide +kernel) rfl (Nat.le_of_ble_eq_true rfl) ?_
  intro p e s m args below meth c ls A hC hr hlk hin hK hA hX hl
  have hl : lv_has ls 3 [(0, .ref (am 0))] := hl
  have hokk := hok
  obtain ⟨hLn, hPc, hMs, hTx, hPt⟩ := hok
  refine lv_iconst (v := nI (0)) hC.1 hC.2.1 dX8_allEnds_0 rfl ?_
  refine lv_istore_n (lv' := [(1, .int (nI (0))), (0, .ref (am 0))]) hC.1 hC.2.1 dX8_allEnds_1 rfl hl (by decide) rfl (fun ls hl => ?_)
  refine lv_iconst (v := nI (0)) hC.1 hC.2.1 dX8_allEnds_2 rfl ?_
  refine lv_istore_n (lv' := [(2, .int (nI (0))), (1, .int (nI (0))), (0, .ref (am 0))]) hC.1 hC.2.1 dX8_allEnds_3 rfl hl (by decide) rfl (fun ls hl => ?_)
  have loop4 : ∀ (n9 : Nat) (i : Nat) (fw : Nat → Nat) (bg : Nat → Int32) (ef : Nat → Nat) (ne : Nat), (i ≤ aPc (m_all S)) → aPc (m_all S) - i < n9 → ∀ (H : Heap) (locs : List Loc) (ls : Array Slot), HH G A s.heap (wM G am (w_nends (w_endAt (w_begin (w_fewest (S) (fw)) (bg)) (ef)) (ne))) H locs → lv_has ls 3 [(2, .int (nI (i))), (1, .int (nI (sumN (fun p => cS (selAM (m_all S) p false) (aLen (m_all S) + 1)) i))), (0, .ref (am 0))] → W p l e { frames := 5, cells := 0, slots := 0, locals := 116 } s m args below meth c H locs 0 0 (EndI G (wM G am) A (fun r S' => (∃ fw bg ef ne, S' = w_nends (w_endAt (w_begin (w_fewest S fw) bg) ef) ne) ∧ r = nI (sumN (fun p => cS (selAM (m_all S) p false) (aLen (m_all S) + 1)) (aPc (m_all S)))) below args s 0 0) (F0 m 4 ls []) := by
    intro n9
    induction n9 with
    | zero => intro i fw bg ef ne hi hn9; exact absurd hn9 (Nat.not_lt_zero _)
    | succ n9 ih4 =>
      intro i fw bg ef ne hi hn9 H locs ls hX hl
      refine lv_iload_n hC.1 hC.2.1 dX8_allEnds_4 rfl (lv_at hl 0 rfl) ?_
      refine lv_aload_n hC.1 hC.2.1 dX8_allEnds_5 rfl (lv_at hl 2 rfl) ?_
      refine g_m_all hC fi_X8_allEnds_X8 hK hX (wd9 hC 1 rfl) dX8_allEnds_6 ?_
      refine lv_iconst (v := nI (1)) hC.1 hC.2.1 dX8_allEnds_9 rfl ?_
      refine l_m_all hC hK hX (i := 1) (by decide) dX8_allEnds_10 (v := aPc (m_all S)) rfl ?_
      refine n_icmp_ge hC (a := i) (b := aPc (m_all S)) (tgt := 29) dX8_allEnds_11 (by decide) (by omega) (by omega) (fun c11 => ?_) (fun c11 => ?_)
      · skip
        refine lv_iload_n hC.1 hC.2.1 dX8_allEnds_29 rfl (lv_at hl 1 rfl) ?_
        refine r_ireturn hC hr hlk hX dX8_allEnds_30 ?_
        obtain rfl : i = aPc (m_all S) := by omega
        exact ⟨⟨_, _, _, _, rfl⟩, rfl⟩
      · skip
        refine lv_iload_n hC.1 hC.2.1 dX8_allEnds_14 rfl (lv_at hl 1 rfl) ?_
        refine lv_aload_n hC.1 hC.2.1 dX8_allEnds_15 rfl (lv_at hl 2 rfl) ?_
        refine lv_iload_n hC.1 hC.2.1 dX8_allEnds_16 rfl (lv_at hl 0 rfl) ?_
        refine lv_iconst (v := nI (0)) hC.1 hC.2.1 dX8_allEnds_17 rfl ?_
        refine cv_I (As := [.int (nI (i)), .int (nI (0))]) (rest := [.int (nI (sumN (fun p => cS (selAM (m_all S) p false) (aLen (m_all S) + 1)) i))]) hC hK hA hX (c_X8_manyEnds l G am (w_nends (w_endAt (w_begin (w_fewest (S) (fw)) (bg)) (ef)) (ne)) hokk (i) (by omega) false) (cwV 2 hC.2.2.2.2 gX8_allEnds_X8_manyEnds rfl rfl rfl hd_X8_manyEnds ⟨Nat.le_of_ble_eq_true rfl, Nat.le_of_ble_eq_true rfl⟩) (ci := 8) (q := (RX8, TX8, 21)) rfl (q0 := 0) rfl dX8_allEnds_18 rfl hl.1 rfl (Nat.le_of_ble_eq_true rfl) ⟨(Nat.zero_le _), (Nat.zero_le _)⟩ (fun r9 S9 H locs hp9 hX => ?_)
        obtain ⟨⟨fw18, bg18, ef18, hS9⟩, h9⟩ := hp9
        rw [hS9] at hX
        obtain rfl : r9 = nI (cS (selAM (m_all S) (i) false) (aLen (m_all S) + 1)) := h9
        replace hX : HH G A s.heap (wM G am (w_nends (w_endAt (w_begin (w_fewest (S) (fw18)) (bg18)) (ef18)) (cS (selAM (m_all S) (i) false) (aLen (m_all S) + 1)))) H locs := hX
        refine n_add hC (a := sumN (fun p => cS (selAM (m_all S) p false) (aLen (m_all S) + 1)) i) (b := cS (selAM (m_all S) (i) false) (aLen (m_all S) + 1)) dX8_allEnds_21 ?_
        refine lv_istore_n (lv' := [(1, .int (nI ((sumN (fun p => cS (selAM (m_all S) p false) (aLen (m_all S) + 1)) i) + (cS (selAM (m_all S) (i) false) (aLen (m_all S) + 1))))), (2, .int (nI (i))), (0, .ref (am 0))]) hC.1 hC.2.1 dX8_allEnds_22 rfl hl (by decide) rfl (fun ls hl => ?_)
        refine lv_iinc (v := nI (i + 1)) (lv' := [(2, .int (nI (i + 1))), (1, .int (nI ((sumN (fun p => cS (selAM (m_all S) p false) (aLen (m_all S) + 1)) i) + (cS (selAM (m_all S) (i) false) (aLen (m_all S) + 1))))), (0, .ref (am 0))]) hC.1 hC.2.1 dX8_allEnds_23 hl (k := 1) rfl (n_inc1 _) (by decide) rfl (fun ls hl => ?_)
        refine lv_goto (tgt := 4) hC.1 hC.2.1 dX8_allEnds_26 (by decide) ?_
        refine ih4 (i + 1) (fw18) (bg18) (ef18) (cS (selAM (m_all S) (i) false) (aLen (m_all S) + 1)) ?_ ?_ _ _ ls hX (lv_sub hl [0, 1, 2] rfl)
        · omega
        · omega
  refine loop4 _ (0) (m_fewest S) (m_begin S) (m_endAt S) (m_nends S) ?_ (Nat.lt_succ_self _) _ _ ls hX (lv_sub hl [0, 1, 2] rfl)
  · omega
theorem fi_X8_placesOfEnds_X8 : ∀ w ∈ wsX80, w ∈ wsX8_placesOfEnds := by decide +kernel
set_option maxHeartbeats 4000000 in
set_option maxRecDepth 100000 in
theorem c_X8_placesOfEnds (l : Launch) (G : GX) (am : Nat → Nat) (S : MS) (hok : okA (m_all S)) : CtI l yX8_placesOfEnds wsX8_placesOfEnds { frames := 4, cells := 0, slots := 0, locals := 94 } G (wM G am) (S) [.ref (am 0)] (fun r S' => (∃ fw bg ef ne ie, S' = w_isEnd (w_nends (w_endAt (w_begin (w_fewest S fw) bg) ef) ne) ie) ∧ r = nI (cS (anyM (m_all S) (aPc (m_all S))) (aLen (m_all S) + 1))) 0 0 := by
  refine CtI.of (cc := cX8_placesOfEnds) (maxL := 3) (ret := some .int) (by decide +kernel) rfl (Nat.le_of_ble_eq_true rfl) ?_
  intro p e s m args below meth c ls A hC hr hlk hin hK hA hX hl
  have hl : lv_has ls 3 [(0, .ref (am 0))] := hl
  have hokk := hok
  obtain ⟨hLn, hPc, hMs, hTx, hPt⟩ := hok
  refine lv_iconst (v := nI (0)) hC.1 hC.2.1 dX8_placesOfEnds_0 rfl ?_
  refine lv_istore_n (lv' := [(1, .int (nI (0))), (0, .ref (am 0))]) hC.1 hC.2.1 dX8_placesOfEnds_1 rfl hl (by decide) rfl (fun ls hl => ?_)
  have loop2 : ∀ (n9 : Nat) (i : Nat) (f : Nat → Nat), (i ≤ aLen (m_all S) + 1) → (∀ ee, ee < i → f ee = 0) → aLen (m_all S) + 1 - i < n9 → ∀ (H : Heap) (locs : List Loc) (ls : Array Slot), HH G A s.heap (wM G am (w_isEnd (S) (f))) H locs → lv_has ls 3 [(1, .int (nI (i))), (0, .ref (am 0))] → W p l e { frames := 4, cells := 0, slots := 0, locals := 94 } s m args below meth c H locs 0 0 (EndI G (wM G am) A (fun r S' => (∃ fw bg ef ne ie, S' = w_isEnd (w_nends (w_endAt (w_begin (w_fewest S fw) bg) ef) ne) ie) ∧ r = nI (cS (anyM (m_all S) (aPc (m_all S))) (aLen (m_all S) + 1))) below args s 0 0) (F0 m 2 ls []) := by
    intro n9
    induction n9 with
    | zero => intro i f hi hf hn9; exact absurd hn9 (Nat.not_lt_zero _)
    | succ n9 ih2 =>
      intro i f hi hf hn9 H locs ls hX hl
      refine lv_iload_n hC.1 hC.2.1 dX8_placesOfEnds_2 rfl (lv_at hl 0 rfl) ?_
      refine lv_aload_n hC.1 hC.2.1 dX8_placesOfEnds_3 rfl (lv_at hl 1 rfl) ?_
      refine g_m_all hC fi_X8_placesOfEnds_X8 hK hX (wd9 hC 1 rfl) dX8_placesOfEnds_4 ?_
      refine lv_iconst (v := nI (0)) hC.1 hC.2.1 dX8_placesOfEnds_7 rfl ?_
      refine l_m_all hC hK hX (i := 0) (by decide) dX8_placesOfEnds_8 (v := aLen (m_all S)) rfl ?_
      refine n_icmp_gt hC (a := i) (b := aLen (m_all S)) (tgt := 25) dX8_placesOfEnds_9 (by decide) (by omega) (by omega) (fun c9 => ?_) (fun c9 => ?_)
      · skip
        refine lv_iconst (v := nI (0)) hC.1 hC.2.1 dX8_placesOfEnds_25 rfl ?_
        refine lv_istore_n (lv' := [(1, .int (nI (0))), (0, .ref (am 0))]) hC.1 hC.2.1 dX8_placesOfEnds_26 rfl hl (by decide) rfl (fun ls hl => ?_)
        have loop27 : ∀ (n9 : Nat) (pp : Nat) (f3 : Nat → Nat) (fw : Nat → Nat) (bg : Nat → Int32) (ef : Nat → Nat) (ne : Nat), (pp ≤ aPc (m_all S)) → (∀ ee, ee ≤ aLen (m_all S) → f3 ee = bN (anyM (m_all S) pp ee)) → aPc (m_all S) - pp < n9 → ∀ (H : Heap) (locs : List Loc) (ls : Array Slot), HH G A s.heap (wM G am (w_isEnd (w_nends (w_endAt (w_begin (w_fewest (S) (fw)) (bg)) (ef)) (ne)) (f3))) H locs → lv_has ls 3 [(1, .int (nI (pp))), (0, .ref (am 0))] → W p l e { frames := 4, cells := 0, slots := 0, locals := 94 } s m args below meth c H locs 0 0 (EndI G (wM G am) A (fun r S' => (∃ fw bg ef ne ie, S' = w_isEnd (w_nends (w_endAt (w_begin (w_fewest S fw) bg) ef) ne) ie) ∧ r = nI (cS (anyM (m_all S) (aPc (m_all S))) (aLen (m_all S) + 1))) below args s 0 0) (F0 m 27 ls []) := by
          intro n9
          induction n9 with
          | zero => intro pp f3 fw bg ef ne hpp hf3 hn9; exact absurd hn9 (Nat.not_lt_zero _)
          | succ n9 ih27 =>
            intro pp f3 fw bg ef ne hpp hf3 hn9 H locs ls hX hl
            refine lv_iload_n hC.1 hC.2.1 dX8_placesOfEnds_27 rfl (lv_at hl 0 rfl) ?_
            refine lv_aload_n hC.1 hC.2.1 dX8_placesOfEnds_28 rfl (lv_at hl 1 rfl) ?_
            refine g_m_all hC fi_X8_placesOfEnds_X8 hK hX (wd9 hC 1 rfl) dX8_placesOfEnds_29 ?_
            refine lv_iconst (v := nI (1)) hC.1 hC.2.1 dX8_placesOfEnds_32 rfl ?_
            refine l_m_all hC hK hX (i := 1) (by decide) dX8_placesOfEnds_33 (v := aPc (m_all S)) rfl ?_
            refine n_icmp_ge hC (a := pp) (b := aPc (m_all S)) (tgt := 77) dX8_placesOfEnds_34 (by decide) (by omega) (by omega) (fun c34 => ?_) (fun c34 => ?_)
            · skip
              obtain rfl : pp = aPc (m_all S) := by omega
              refine lv_iconst (v := nI (0)) hC.1 hC.2.1 dX8_placesOfEnds_77 rfl ?_
              refine lv_istore_n (lv' := [(1, .int (nI (0))), (0, .ref (am 0))]) hC.1 hC.2.1 dX8_placesOfEnds_78 rfl hl (by decide) rfl (fun ls hl => ?_)
              refine lv_iconst (v := nI (0)) hC.1 hC.2.1 dX8_placesOfEnds_79 rfl ?_
              refine lv_istore_n (lv' := [(2, .int (nI (0))), (1, .int (nI (0))), (0, .ref (am 0))]) hC.1 hC.2.1 dX8_placesOfEnds_80 rfl hl (by decide) rfl (fun ls hl => ?_)
              have loop81 : ∀ (n9 : Nat) (j : Nat), (j ≤ aLen (m_all S) + 1) → aLen (m_all S) + 1 - j < n9 → ∀ (H : Heap) (locs : List Loc) (ls : Array Slot), HH G A s.heap (wM G am (w_isEnd (w_nends (w_endAt (w_begin (w_fewest (S) (fw)) (bg)) (ef)) (ne)) (f3))) H locs → lv_has ls 3 [(2, .int (nI (j))), (1, .int (nI (cS (anyM (m_all S) (aPc (m_all S))) j))), (0, .ref (am 0))] → W p l e { frames := 4, cells := 0, slots := 0, locals := 94 } s m args below meth c H locs 0 0 (EndI G (wM G am) A (fun r S' => (∃ fw bg ef ne ie, S' = w_isEnd (w_nends (w_endAt (w_begin (w_fewest S fw) bg) ef) ne) ie) ∧ r = nI (cS (anyM (m_all S) (aPc (m_all S))) (aLen (m_all S) + 1))) below args s 0 0) (F0 m 81 ls []) := by
                intro n9
                induction n9 with
                | zero => intro j hj hn9; exact absurd hn9 (Nat.not_lt_zero _)
                | succ n9 ih81 =>
                  intro j hj hn9 H locs ls hX hl
                  refine lv_iload_n hC.1 hC.2.1 dX8_placesOfEnds_81 rfl (lv_at hl 0 rfl) ?_
                  refine lv_aload_n hC.1 hC.2.1 dX8_placesOfEnds_82 rfl (lv_at hl 2 rfl) ?_
                  refine g_m_all hC fi_X8_placesOfEnds_X8 hK hX (wd9 hC 1 rfl) dX8_placesOfEnds_83 ?_
                  refine lv_iconst (v := nI (0)) hC.1 hC.2.1 dX8_placesOfEnds_86 rfl ?_
                  refine l_m_all hC hK hX (i := 0) (by decide) dX8_placesOfEnds_87 (v := aLen (m_all S)) rfl ?_
                  refine n_icmp_gt hC (a := j) (b := aLen (m_all S)) (tgt := 106) dX8_placesOfEnds_88 (by decide) (by omega) (by omega) (fun c88 => ?_) (fun c88 => ?_)
                  · skip
                    refine lv_iload_n hC.1 hC.2.1 dX8_placesOfEnds_106 rfl (lv_at hl 1 rfl) ?_
                    refine r_ireturn hC hr hlk hX dX8_placesOfEnds_107 ?_
                    obtain rfl : j = aLen (m_all S) + 1 := by omega
                    exact ⟨⟨_, _, _, _, _, rfl⟩, rfl⟩
                  · skip
                    have hcm := cS_le (anyM (m_all S) (aPc (m_all S))) j
                    have hbl := bN_le (anyM (m_all S) (aPc (m_all S)) j)
                    refine lv_iload_n hC.1 hC.2.1 dX8_placesOfEnds_91 rfl (lv_at hl 1 rfl) ?_
                    refine lv_aload_n hC.1 hC.2.1 dX8_placesOfEnds_92 rfl (lv_at hl 2 rfl) ?_
                    refine g_m_isEnd hC fi_X8_placesOfEnds_X8 hK hX (wd9 hC 2 rfl) dX8_placesOfEnds_93 ?_
                    refine lv_iload_n hC.1 hC.2.1 dX8_placesOfEnds_96 rfl (lv_at hl 0 rfl) ?_
                    refine l_m_isEnd hC hK hX (i := j) (by omega) dX8_placesOfEnds_97 (v := bN (anyM (m_all S) (aPc (m_all S)) j)) (hf3 j (by omega)) ?_
                    refine n_add hC (a := cS (anyM (m_all S) (aPc (m_all S))) j) (b := bN (anyM (m_all S) (aPc (m_all S)) j)) dX8_placesOfEnds_98 ?_
                    refine lv_istore_n (lv' := [(1, .int (nI ((cS (anyM (m_all S) (aPc (m_all S))) j) + (bN (anyM (m_all S) (aPc (m_all S)) j))))), (2, .int (nI (j))), (0, .ref (am 0))]) hC.1 hC.2.1 dX8_placesOfEnds_99 rfl hl (by decide) rfl (fun ls hl => ?_)
                    refine lv_iinc (v := nI (j + 1)) (lv' := [(2, .int (nI (j + 1))), (1, .int (nI ((cS (anyM (m_all S) (aPc (m_all S))) j) + (bN (anyM (m_all S) (aPc (m_all S)) j))))), (0, .ref (am 0))]) hC.1 hC.2.1 dX8_placesOfEnds_100 hl (k := 1) rfl (n_inc1 _) (by decide) rfl (fun ls hl => ?_)
                    refine lv_goto (tgt := 81) hC.1 hC.2.1 dX8_placesOfEnds_103 (by decide) ?_
                    refine ih81 (j + 1) ?_ ?_ _ _ ls hX (by rw [← cS_bN]; exact lv_sub hl [0, 1, 2] rfl)
                    · omega
                    · omega
              refine loop81 _ (0) ?_ (Nat.lt_succ_self _) _ _ ls hX (lv_sub hl [0, 1, 2] rfl)
              · omega
            · skip
              refine lv_aload_n hC.1 hC.2.1 dX8_placesOfEnds_37 rfl (lv_at hl 1 rfl) ?_
              refine lv_iload_n hC.1 hC.2.1 dX8_placesOfEnds_38 rfl (lv_at hl 0 rfl) ?_
              refine lv_iconst (v := nI (0)) hC.1 hC.2.1 dX8_placesOfEnds_39 rfl ?_
              refine cv_V (As := [.int (nI (pp)), .int (nI (0))]) (rest := []) hC hK hA hX (c_X8_findsEnds l G am (w_isEnd (w_nends (w_endAt (w_begin (w_fewest (S) (fw)) (bg)) (ef)) (ne)) (f3)) hokk (pp) (by omega) false) (cwV 2 hC.2.2.2.2 gX8_placesOfEnds_X8_findsEnds rfl rfl rfl hd_X8_findsEnds ⟨Nat.le_of_ble_eq_true rfl, Nat.le_of_ble_eq_true rfl⟩) (ci := 8) (q := (RX8, TX8, 21)) rfl (q0 := 0) rfl dX8_placesOfEnds_40 rfl hl.1 rfl (Nat.le_of_ble_eq_true rfl) ⟨(Nat.zero_le _), (Nat.zero_le _)⟩ (fun S9 H locs hp9 hX => ?_)
              obtain ⟨fw40, bg40, ef40, hS9, hLR40, hck40⟩ := hp9
              rw [hS9] at hX
              replace hX : HH G A s.heap (wM G am (w_isEnd (w_nends (w_endAt (w_begin (w_fewest (S) (fw40)) (bg40)) (ef40)) (cS (selAM (m_all S) (pp) false) (aLen (m_all S) + 1))) (f3))) H locs := hX
              replace hLR40 : LR ef40 (selAM (m_all S) (pp) false) (aLen (m_all S) + 1) := hLR40
              replace hck40 : ∀ ee, ee ≤ aLen (m_all S) → cellK fw40 bg40 (121 * aPl (m_all S) (pp) + ee) (kM (m_all S) (pp) ee) := hck40
              have hcl40 := cS_le (selAM (m_all S) (pp) false) (aLen (m_all S) + 1)
              have hes40 : ∀ r, r < cS (selAM (m_all S) (pp) false) (aLen (m_all S) + 1) → ef40 r < aLen (m_all S) + 1 ∧ dM (m_all S) (pp) (ef40 r) = gM (m_all S) (pp) ef40 r := fun r hr => gM_eq hMs hLR40 hr
              refine lv_iconst (v := nI (0)) hC.1 hC.2.1 dX8_placesOfEnds_43 rfl ?_
              refine lv_istore_n (lv' := [(2, .int (nI (0))), (1, .int (nI (pp))), (0, .ref (am 0))]) hC.1 hC.2.1 dX8_placesOfEnds_44 rfl hl (by decide) rfl (fun ls hl => ?_)
              have loop45 : ∀ (n9 : Nat) (k : Nat) (f4 : Nat → Nat), (k ≤ cS (selAM (m_all S) pp false) (aLen (m_all S) + 1)) → (∀ ee, ee ≤ aLen (m_all S) → f4 ee = bN (anyM (m_all S) pp ee || decide (∃ r, r < k ∧ ef40 r = ee))) → cS (selAM (m_all S) pp false) (aLen (m_all S) + 1) - k < n9 → ∀ (H : Heap) (locs : List Loc) (ls : Array Slot), HH G A s.heap (wM G am (w_isEnd (w_nends (w_endAt (w_begin (w_fewest (S) (fw40)) (bg40)) (ef40)) (cS (selAM (m_all S) (pp) false) (aLen (m_all S) + 1))) (f4))) H locs → lv_has ls 3 [(2, .int (nI (k))), (1, .int (nI (pp))), (0, .ref (am 0))] → W p l e { frames := 4, cells := 0, slots := 0, locals := 94 } s m args below meth c H locs 0 0 (EndI G (wM G am) A (fun r S' => (∃ fw bg ef ne ie, S' = w_isEnd (w_nends (w_endAt (w_begin (w_fewest S fw) bg) ef) ne) ie) ∧ r = nI (cS (anyM (m_all S) (aPc (m_all S))) (aLen (m_all S) + 1))) below args s 0 0) (F0 m 45 ls []) := by
                intro n9
                induction n9 with
                | zero => intro k f4 hk hf4 hn9; exact absurd hn9 (Nat.not_lt_zero _)
                | succ n9 ih45 =>
                  intro k f4 hk hf4 hn9 H locs ls hX hl
                  refine lv_iload_n hC.1 hC.2.1 dX8_placesOfEnds_45 rfl (lv_at hl 0 rfl) ?_
                  refine lv_aload_n hC.1 hC.2.1 dX8_placesOfEnds_46 rfl (lv_at hl 2 rfl) ?_
                  refine g_m_nends hC fi_X8_placesOfEnds_X8 hK hX (wd9 hC 3 rfl) dX8_placesOfEnds_47 (v := cS (selAM (m_all S) (pp) false) (aLen (m_all S) + 1)) rfl ?_
                  refine n_icmp_ge hC (a := k) (b := cS (selAM (m_all S) (pp) false) (aLen (m_all S) + 1)) (tgt := 71) dX8_placesOfEnds_50 (by decide) (by omega) (by omega) (fun c50 => ?_) (fun c50 => ?_)
                  · skip
                    refine lv_iinc (v := nI (pp + 1)) (lv' := [(1, .int (nI (pp + 1))), (2, .int (nI (k))), (0, .ref (am 0))]) hC.1 hC.2.1 dX8_placesOfEnds_71 hl (k := 1) rfl (n_inc1 _) (by decide) rfl (fun ls hl => ?_)
                    refine lv_goto (tgt := 27) hC.1 hC.2.1 dX8_placesOfEnds_74 (by decide) ?_
                    refine ih27 (pp + 1) (f4) (fw40) (bg40) (ef40) (cS (selAM (m_all S) (pp) false) (aLen (m_all S) + 1)) ?_ ?_ ?_ _ _ ls hX (lv_sub hl [0, 2] rfl)
                    · omega
                    · obtain rfl : k = cS (selAM (m_all S) pp false) (aLen (m_all S) + 1) := by omega
                      exact fun ee h => by rw [hf4 ee h, anyM_s (e := ee) hLR40 (by omega)]
                    · omega
                  · skip
                    refine lv_aload_n hC.1 hC.2.1 dX8_placesOfEnds_53 rfl (lv_at hl 2 rfl) ?_
                    refine g_m_isEnd hC fi_X8_placesOfEnds_X8 hK hX (wd9 hC 2 rfl) dX8_placesOfEnds_54 ?_
                    refine lv_aload_n hC.1 hC.2.1 dX8_placesOfEnds_57 rfl (lv_at hl 2 rfl) ?_
                    refine g_m_endAt hC fi_X8_placesOfEnds_X8 hK hX (wd9 hC 4 rfl) dX8_placesOfEnds_58 ?_
                    have hek := (hes40 k (by omega)).1
                    refine lv_iload_n hC.1 hC.2.1 dX8_placesOfEnds_61 rfl (lv_at hl 0 rfl) ?_
                    refine l_m_endAt hC hK hX (i := k) (by omega) dX8_placesOfEnds_62 (v := ef40 k) rfl ?_
                    refine lv_iconst (v := nI (1)) hC.1 hC.2.1 dX8_placesOfEnds_63 rfl ?_
                    refine s_m_isEnd hC hK hX (i := ef40 k) (v := 1) (by omega) dX8_placesOfEnds_64 (fun H locs hX => ?_)
                    replace hX : HH G A s.heap (wM G am (w_isEnd (w_nends (w_endAt (w_begin (w_fewest (S) (fw40)) (bg40)) (ef40)) (cS (selAM (m_all S) (pp) false) (aLen (m_all S) + 1))) (va_up (f4) (ef40 k) (1)))) H locs := hX
                    refine lv_iinc (v := nI (k + 1)) (lv' := [(2, .int (nI (k + 1))), (1, .int (nI (pp))), (0, .ref (am 0))]) hC.1 hC.2.1 dX8_placesOfEnds_65 hl (k := 0) rfl (n_inc1 _) (by decide) rfl (fun ls hl => ?_)
                    refine lv_goto (tgt := 45) hC.1 hC.2.1 dX8_placesOfEnds_68 (by decide) ?_
                    refine ih45 (k + 1) (va_up (f4) (ef40 k) (1)) ?_ ?_ ?_ _ _ ls hX (lv_sub hl [0, 1, 2] rfl)
                    · omega
                    · exact fun ee h => by
                        rw [mkM_s rfl]
                        by_cases h2 : ee = ef40 k
                        · rw [if_pos h2, h2]; exact va_up_self _ _ _
                        · rw [if_neg h2, va_up_ne _ _ h2]; exact hf4 ee h
                    · omega
              refine loop45 _ (0) (f3) ?_ ?_ (Nat.lt_succ_self _) _ _ ls hX (lv_sub hl [0, 1, 2] rfl)
              · omega
              · exact fun ee h => by rw [hf3 ee h, decide_eq_false (fun z => by obtain ⟨r, h1, h2⟩ := z; exact absurd h1 (Nat.not_lt_zero _)), Bool.or_false]
        refine loop27 _ (0) (f) (m_fewest S) (m_begin S) (m_endAt S) (m_nends S) ?_ ?_ (Nat.lt_succ_self _) _ _ ls hX (lv_sub hl [0, 1] rfl)
        · omega
        · exact fun ee h => hf ee (by omega)
      · skip
        refine lv_aload_n hC.1 hC.2.1 dX8_placesOfEnds_12 rfl (lv_at hl 1 rfl) ?_
        refine g_m_isEnd hC fi_X8_placesOfEnds_X8 hK hX (wd9 hC 2 rfl) dX8_placesOfEnds_13 ?_
        refine lv_iload_n hC.1 hC.2.1 dX8_placesOfEnds_16 rfl (lv_at hl 0 rfl) ?_
        refine lv_iconst (v := nI (0)) hC.1 hC.2.1 dX8_placesOfEnds_17 rfl ?_
        refine s_m_isEnd hC hK hX (i := i) (v := 0) (by omega) dX8_placesOfEnds_18 (fun H locs hX => ?_)
        replace hX : HH G A s.heap (wM G am (w_isEnd (S) (va_up (f) (i) (0)))) H locs := hX
        refine lv_iinc (v := nI (i + 1)) (lv' := [(1, .int (nI (i + 1))), (0, .ref (am 0))]) hC.1 hC.2.1 dX8_placesOfEnds_19 hl (k := 0) rfl (n_inc1 _) (by decide) rfl (fun ls hl => ?_)
        refine lv_goto (tgt := 2) hC.1 hC.2.1 dX8_placesOfEnds_22 (by decide) ?_
        refine ih2 (i + 1) (va_up (f) (i) (0)) ?_ ?_ ?_ _ _ ls hX (lv_sub hl [0, 1] rfl)
        · omega
        · exact fun j hj => by
            by_cases h : j = i
            · subst h; exact va_up_self _ _ _
            · rw [va_up_ne _ _ h]; exact hf j (by omega)
        · omega
  refine loop2 _ (0) (m_isEnd S) ?_ ?_ (Nat.lt_succ_self _) _ _ ls hX (lv_sub hl [0, 1] rfl)
  · omega
  · exact fun ee h => absurd h (Nat.not_lt_zero _)
theorem fi_X8_bestRank_X8 : ∀ w ∈ wsX80, w ∈ wsX8_bestRank := by decide +kernel
theorem hd_X8_slipsOf : yX8_slipsOf.cls = RX8 ∧ yX8_slipsOf.cls ≠ "java/lang/invoke/MethodHandle" ∧ yX8_slipsOf.cls ≠ "java/lang/invoke/VarHandle" ∧ (parseMethodDescriptor yX8_slipsOf.desc).map (fun d => d.parameters.length) = some 2 := by decide +kernel
set_option maxHeartbeats 4000000 in
set_option maxRecDepth 100000 in
theorem c_X8_bestRank (l : Launch) (G : GX) (am : Nat → Nat) (S : MS) (hok : okA (m_all S)) (p0 : Nat) (hp0 : p0 < 6) : CtI l yX8_bestRank wsX8_bestRank { frames := 4, cells := 0, slots := 0, locals := 94 } G (wM G am) (S) [.ref (am 0), .int (nI (p0))] (fun r S' => ∃ fw bg ef, S' = w_nends (w_endAt (w_begin (w_fewest S fw) bg) ef) (cS (selAM (m_all S) p0 false) (aLen (m_all S) + 1)) ∧ LR ef (selAM (m_all S) p0 false) (aLen (m_all S) + 1) ∧ (∀ ee, ee ≤ aLen (m_all S) → cellK fw bg (121 * aPl (m_all S) p0 + ee) (kM (m_all S) p0 ee)) ∧ r = if cS (selAM (m_all S) p0 false) (aLen (m_all S) + 1) = 0 then (-5) else nI (argG (gM (m_all S) p0 ef) (cS (selAM (m_all S) p0 false) (aLen (m_all S) + 1)))) 0 0 := by
  refine CtI.of (cc := cX8_bestRank) (maxL := 4) (ret := some .int) (by decide +kernel) rfl (Nat.le_of_ble_eq_true rfl) ?_
  intro p e s m args below meth c ls A hC hr hlk hin hK hA hX hl
  have hl : lv_has ls 4 [(0, .ref (am 0)), (1, .int (nI (p0)))] := hl
  have hokk := hok
  obtain ⟨hLn, hPc, hMs, hTx, hPt⟩ := hok
  obtain ⟨hpl, hbd, htk⟩ := hPt p0 hp0
  refine lv_aload_n hC.1 hC.2.1 dX8_bestRank_0 rfl (lv_at hl 0 rfl) ?_
  refine lv_iload_n hC.1 hC.2.1 dX8_bestRank_1 rfl (lv_at hl 1 rfl) ?_
  refine lv_iconst (v := nI (0)) hC.1 hC.2.1 dX8_bestRank_2 rfl ?_
  refine cv_V (As := [.int (nI (p0)), .int (nI (0))]) (rest := []) hC hK hA hX (c_X8_findsEnds l G am (S) hokk (p0) hp0 false) (cwV 2 hC.2.2.2.2 gX8_bestRank_X8_findsEnds rfl rfl rfl hd_X8_findsEnds ⟨Nat.le_of_ble_eq_true rfl, Nat.le_of_ble_eq_true rfl⟩) (ci := 8) (q := (RX8, TX8, 21)) rfl (q0 := 0) rfl dX8_bestRank_3 rfl hl.1 rfl (Nat.le_of_ble_eq_true rfl) ⟨(Nat.zero_le _), (Nat.zero_le _)⟩ (fun S9 H locs hp9 hX => ?_)
  obtain ⟨fw3, bg3, ef3, hS9, hLR3, hck3⟩ := hp9
  rw [hS9] at hX
  replace hX : HH G A s.heap (wM G am (w_nends (w_endAt (w_begin (w_fewest (S) (fw3)) (bg3)) (ef3)) (cS (selAM (m_all S) (p0) false) (aLen (m_all S) + 1)))) H locs := hX
  replace hLR3 : LR ef3 (selAM (m_all S) (p0) false) (aLen (m_all S) + 1) := hLR3
  replace hck3 : ∀ ee, ee ≤ aLen (m_all S) → cellK fw3 bg3 (121 * aPl (m_all S) (p0) + ee) (kM (m_all S) (p0) ee) := hck3
  have hcl3 := cS_le (selAM (m_all S) (p0) false) (aLen (m_all S) + 1)
  have hes3 : ∀ r, r < cS (selAM (m_all S) (p0) false) (aLen (m_all S) + 1) → ef3 r < aLen (m_all S) + 1 ∧ dM (m_all S) (p0) (ef3 r) = gM (m_all S) (p0) ef3 r := fun r hr => gM_eq hMs hLR3 hr
  refine lv_bipush (v := (-5)) hC.1 hC.2.1 dX8_bestRank_6 (by decide +kernel) ?_
  refine lv_istore_n (lv' := [(2, .int ((-5))), (0, .ref (am 0)), (1, .int (nI (p0)))]) hC.1 hC.2.1 dX8_bestRank_8 rfl hl (by decide) rfl (fun ls hl => ?_)
  refine lv_iconst (v := nI (0)) hC.1 hC.2.1 dX8_bestRank_9 rfl ?_
  refine lv_istore_n (lv' := [(3, .int (nI (0))), (2, .int ((-5))), (0, .ref (am 0)), (1, .int (nI (p0)))]) hC.1 hC.2.1 dX8_bestRank_10 rfl hl (by decide) rfl (fun ls hl => ?_)
  have loop11 : ∀ (n9 : Nat) (i : Nat) (b9 : Int32), (i ≤ cS (selAM (m_all S) p0 false) (aLen (m_all S) + 1)) → ((i = 0 ∧ b9 = -5) ∨ (0 < i ∧ b9 = nI (argG (gM (m_all S) p0 ef3) i))) → cS (selAM (m_all S) p0 false) (aLen (m_all S) + 1) - i < n9 → ∀ (H : Heap) (locs : List Loc) (ls : Array Slot), HH G A s.heap (wM G am (w_nends (w_endAt (w_begin (w_fewest (S) (fw3)) (bg3)) (ef3)) (cS (selAM (m_all S) (p0) false) (aLen (m_all S) + 1)))) H locs → lv_has ls 4 [(3, .int (nI (i))), (2, .int (b9)), (0, .ref (am 0)), (1, .int (nI (p0)))] → W p l e { frames := 4, cells := 0, slots := 0, locals := 94 } s m args below meth c H locs 0 0 (EndI G (wM G am) A (fun r S' => ∃ fw bg ef, S' = w_nends (w_endAt (w_begin (w_fewest S fw) bg) ef) (cS (selAM (m_all S) p0 false) (aLen (m_all S) + 1)) ∧ LR ef (selAM (m_all S) p0 false) (aLen (m_all S) + 1) ∧ (∀ ee, ee ≤ aLen (m_all S) → cellK fw bg (121 * aPl (m_all S) p0 + ee) (kM (m_all S) p0 ee)) ∧ r = if cS (selAM (m_all S) p0 false) (aLen (m_all S) + 1) = 0 then (-5) else nI (argG (gM (m_all S) p0 ef) (cS (selAM (m_all S) p0 false) (aLen (m_all S) + 1)))) below args s 0 0) (F0 m 11 ls []) := by
    intro n9
    induction n9 with
    | zero => intro i b9 hi hb hn9; exact absurd hn9 (Nat.not_lt_zero _)
    | succ n9 ih11 =>
      intro i b9 hi hb hn9 H locs ls hX hl
      refine lv_iload_n hC.1 hC.2.1 dX8_bestRank_11 rfl (lv_at hl 0 rfl) ?_
      refine lv_aload_n hC.1 hC.2.1 dX8_bestRank_12 rfl (lv_at hl 2 rfl) ?_
      refine g_m_nends hC fi_X8_bestRank_X8 hK hX (wd9 hC 1 rfl) dX8_bestRank_13 (v := cS (selAM (m_all S) (p0) false) (aLen (m_all S) + 1)) rfl ?_
      refine n_icmp_ge hC (a := i) (b := cS (selAM (m_all S) (p0) false) (aLen (m_all S) + 1)) (tgt := 52) dX8_bestRank_16 (by decide) (by omega) (by omega) (fun c16 => ?_) (fun c16 => ?_)
      · skip
        refine lv_iload_n hC.1 hC.2.1 dX8_bestRank_52 rfl (lv_at hl 1 rfl) ?_
        refine r_ireturn hC hr hlk hX dX8_bestRank_53 ?_
        obtain rfl : i = cS (selAM (m_all S) p0 false) (aLen (m_all S) + 1) := by omega
        refine ⟨fw3, bg3, ef3, rfl, hLR3, hck3, ?_⟩
        rcases hb with ⟨hb0, hb1⟩ | ⟨hb0, hb1⟩
        · rw [if_pos hb0]; exact hb1
        · rw [if_neg (by omega)]; exact hb1
      · skip
        rcases hb with ⟨hb0, rfl⟩ | ⟨hb0, rfl⟩
        · have hax : 0 < i → argG (gM (m_all S) p0 ef3) i < i := argG_lt (gM (m_all S) p0 ef3) i
          have hef := hes3 i (by omega)
          have hef2 : 0 < i → ef3 (argG (gM (m_all S) p0 ef3) i) < aLen (m_all S) + 1 ∧ dM (m_all S) p0 (ef3 (argG (gM (m_all S) p0 ef3) i)) = gM (m_all S) p0 ef3 (argG (gM (m_all S) p0 ef3) i) := fun h => hes3 _ (by have := hax h; omega)
          refine lv_iload_n hC.1 hC.2.1 dX8_bestRank_19 rfl (lv_at hl 1 rfl) ?_
          refine lv_bipush (v := (-5)) hC.1 hC.2.1 dX8_bestRank_20 (by decide +kernel) ?_
          refine lv_icmp_eq hC.1 hC.2.1 (x := (-5)) (y := (-5)) (tgt := 40) dX8_bestRank_22 (by decide) (fun c22 => ?_) (fun c22 => by first | exact absurd c22 (by decide) | exact absurd (by decide) c22)
          refine lv_iload_n hC.1 hC.2.1 dX8_bestRank_40 rfl (lv_at hl 0 rfl) ?_
          refine lv_goto (tgt := 45) hC.1 hC.2.1 dX8_bestRank_41 (by decide) ?_
          refine lv_istore_n (lv' := [(2, .int (nI (i))), (3, .int (nI (i))), (0, .ref (am 0)), (1, .int (nI (p0)))]) hC.1 hC.2.1 dX8_bestRank_45 rfl hl (by decide) rfl (fun ls hl => ?_)
          refine lv_iinc (v := nI (i + 1)) (lv' := [(3, .int (nI (i + 1))), (2, .int (nI (i))), (0, .ref (am 0)), (1, .int (nI (p0)))]) hC.1 hC.2.1 dX8_bestRank_46 hl (k := 1) rfl (n_inc1 _) (by decide) rfl (fun ls hl => ?_)
          refine lv_goto (tgt := 11) hC.1 hC.2.1 dX8_bestRank_49 (by decide) ?_
          refine ih11 (i + 1) (nI (i)) ?_ ?_ ?_ _ _ ls hX (lv_sub hl [0, 1, 2, 3] rfl)
          · omega
          · refine Or.inr ⟨Nat.succ_pos _, congrArg nI ?_⟩
            first | (subst hb0; rfl) | (rw [argG_up hb0 (by omega)]; done) | (rw [argG_no hb0 (by omega)]; done)
          · omega
        · have hax : 0 < i → argG (gM (m_all S) p0 ef3) i < i := argG_lt (gM (m_all S) p0 ef3) i
          have hef := hes3 i (by omega)
          have hef2 : 0 < i → ef3 (argG (gM (m_all S) p0 ef3) i) < aLen (m_all S) + 1 ∧ dM (m_all S) p0 (ef3 (argG (gM (m_all S) p0 ef3) i)) = gM (m_all S) p0 ef3 (argG (gM (m_all S) p0 ef3) i) := fun h => hes3 _ (by have := hax h; omega)
          have hax := hax hb0
          have hef2 := hef2 hb0
          refine lv_iload_n hC.1 hC.2.1 dX8_bestRank_19 rfl (lv_at hl 1 rfl) ?_
          refine lv_bipush (v := (-5)) hC.1 hC.2.1 dX8_bestRank_20 (by decide +kernel) ?_
          refine lv_icmp_eq hC.1 hC.2.1 (x := nI (argG (gM (m_all S) p0 ef3) i)) (y := (-5)) (tgt := 40) dX8_bestRank_22 (by decide) (fun c22 => absurd c22 (nI_ne_neg (by omega) (by decide))) (fun c22 => ?_)
          refine lv_aload_n hC.1 hC.2.1 dX8_bestRank_25 rfl (lv_at hl 2 rfl) ?_
          refine lv_iload_n hC.1 hC.2.1 dX8_bestRank_26 rfl (lv_at hl 3 rfl) ?_
          refine lv_iload_n hC.1 hC.2.1 dX8_bestRank_27 rfl (lv_at hl 0 rfl) ?_
          refine cv_I (As := [.int (nI (p0)), .int (nI (i))]) (rest := []) hC hK hA hX (c_X8_slipsOf l G am (w_nends (w_endAt (w_begin (w_fewest (S) (fw3)) (bg3)) (ef3)) (cS (selAM (m_all S) (p0) false) (aLen (m_all S) + 1))) (p0) (i) (kM (m_all S) (p0) ((ef3) (i))) hp0 hpl (by omega) (show ef3 i ≤ 120 from by omega) (hck3 (ef3 i) (by omega))) (cwV 2 hC.2.2.2.2 gX8_bestRank_X8_slipsOf rfl rfl rfl hd_X8_slipsOf ⟨Nat.le_of_ble_eq_true rfl, Nat.le_of_ble_eq_true rfl⟩) (ci := 8) (q := (RX8, TX8, 21)) rfl (q0 := 0) rfl dX8_bestRank_28 rfl hl.1 rfl (Nat.le_of_ble_eq_true rfl) ⟨(Nat.zero_le _), (Nat.zero_le _)⟩ (fun r9 S9 H locs hp9 hX => ?_)
          obtain ⟨h9, hS9⟩ := hp9
          rw [hS9] at hX
          obtain rfl : r9 = nI (dM (m_all S) (p0) ((ef3) (i))) := h9
          replace hX : HH G A s.heap (wM G am (w_nends (w_endAt (w_begin (w_fewest (S) (fw3)) (bg3)) (ef3)) (cS (selAM (m_all S) (p0) false) (aLen (m_all S) + 1)))) H locs := hX
          refine lv_aload_n hC.1 hC.2.1 dX8_bestRank_31 rfl (lv_at hl 2 rfl) ?_
          refine lv_iload_n hC.1 hC.2.1 dX8_bestRank_32 rfl (lv_at hl 3 rfl) ?_
          refine lv_iload_n hC.1 hC.2.1 dX8_bestRank_33 rfl (lv_at hl 1 rfl) ?_
          refine cv_I (As := [.int (nI (p0)), .int (nI (argG (gM (m_all S) p0 ef3) i))]) (rest := [.int (nI (dM (m_all S) (p0) ((ef3) (i))))]) hC hK hA hX (c_X8_slipsOf l G am (w_nends (w_endAt (w_begin (w_fewest (S) (fw3)) (bg3)) (ef3)) (cS (selAM (m_all S) (p0) false) (aLen (m_all S) + 1))) (p0) (argG (gM (m_all S) p0 ef3) i) (kM (m_all S) (p0) ((ef3) (argG (gM (m_all S) p0 ef3) i))) hp0 hpl (by omega) (show ef3 (argG (gM (m_all S) p0 ef3) i) ≤ 120 from by omega) (hck3 (ef3 (argG (gM (m_all S) p0 ef3) i)) (by omega))) (cwV 2 hC.2.2.2.2 gX8_bestRank_X8_slipsOf rfl rfl rfl hd_X8_slipsOf ⟨Nat.le_of_ble_eq_true rfl, Nat.le_of_ble_eq_true rfl⟩) (ci := 8) (q := (RX8, TX8, 21)) rfl (q0 := 0) rfl dX8_bestRank_34 rfl hl.1 rfl (Nat.le_of_ble_eq_true rfl) ⟨(Nat.zero_le _), (Nat.zero_le _)⟩ (fun r9 S9 H locs hp9 hX => ?_)
          obtain ⟨h9, hS9⟩ := hp9
          rw [hS9] at hX
          obtain rfl : r9 = nI (dM (m_all S) (p0) ((ef3) (argG (gM (m_all S) p0 ef3) i))) := h9
          replace hX : HH G A s.heap (wM G am (w_nends (w_endAt (w_begin (w_fewest (S) (fw3)) (bg3)) (ef3)) (cS (selAM (m_all S) (p0) false) (aLen (m_all S) + 1)))) H locs := hX
          refine n_icmp_ge hC (a := dM (m_all S) (p0) ((ef3) (i))) (b := dM (m_all S) (p0) ((ef3) (argG (gM (m_all S) p0 ef3) i))) (tgt := 44) dX8_bestRank_37 (by decide) (by have := gM_4 (m_all S) p0 ef3 i; omega) (by have := gM_4 (m_all S) p0 ef3 (argG (gM (m_all S) p0 ef3) i); omega) (fun c37 => ?_) (fun c37 => ?_)
          · skip
            refine lv_iload_n hC.1 hC.2.1 dX8_bestRank_44 rfl (lv_at hl 1 rfl) ?_
            refine lv_istore_n (lv' := [(2, .int (nI (argG (gM (m_all S) p0 ef3) i))), (3, .int (nI (i))), (0, .ref (am 0)), (1, .int (nI (p0)))]) hC.1 hC.2.1 dX8_bestRank_45 rfl hl (by decide) rfl (fun ls hl => ?_)
            refine lv_iinc (v := nI (i + 1)) (lv' := [(3, .int (nI (i + 1))), (2, .int (nI (argG (gM (m_all S) p0 ef3) i))), (0, .ref (am 0)), (1, .int (nI (p0)))]) hC.1 hC.2.1 dX8_bestRank_46 hl (k := 1) rfl (n_inc1 _) (by decide) rfl (fun ls hl => ?_)
            refine lv_goto (tgt := 11) hC.1 hC.2.1 dX8_bestRank_49 (by decide) ?_
            refine ih11 (i + 1) (nI (argG (gM (m_all S) p0 ef3) i)) ?_ ?_ ?_ _ _ ls hX (lv_sub hl [0, 1, 2, 3] rfl)
            · omega
            · refine Or.inr ⟨Nat.succ_pos _, congrArg nI ?_⟩
              first | (subst hb0; rfl) | (rw [argG_up hb0 (by omega)]; done) | (rw [argG_no hb0 (by omega)]; done)
            · omega
          · skip
            refine lv_iload_n hC.1 hC.2.1 dX8_bestRank_40 rfl (lv_at hl 0 rfl) ?_
            refine lv_goto (tgt := 45) hC.1 hC.2.1 dX8_bestRank_41 (by decide) ?_
            refine lv_istore_n (lv' := [(2, .int (nI (i))), (3, .int (nI (i))), (0, .ref (am 0)), (1, .int (nI (p0)))]) hC.1 hC.2.1 dX8_bestRank_45 rfl hl (by decide) rfl (fun ls hl => ?_)
            refine lv_iinc (v := nI (i + 1)) (lv' := [(3, .int (nI (i + 1))), (2, .int (nI (i))), (0, .ref (am 0)), (1, .int (nI (p0)))]) hC.1 hC.2.1 dX8_bestRank_46 hl (k := 1) rfl (n_inc1 _) (by decide) rfl (fun ls hl => ?_)
            refine lv_goto (tgt := 11) hC.1 hC.2.1 dX8_bestRank_49 (by decide) ?_
            refine ih11 (i + 1) (nI (i)) ?_ ?_ ?_ _ _ ls hX (lv_sub hl [0, 1, 2, 3] rfl)
            · omega
            · refine Or.inr ⟨Nat.succ_pos _, congrArg nI ?_⟩
              first | (subst hb0; rfl) | (rw [argG_up hb0 (by omega)]; done) | (rw [argG_no hb0 (by omega)]; done)
            · omega
  refine loop11 _ (0) (-5) ?_ ?_ (Nat.lt_succ_self _) _ _ ls hX (lv_sub hl [0, 1, 2, 3] rfl)
  · omega
  · exact Or.inl ⟨rfl, rfl⟩
