theorem fi_X4_findEnds_X4 : ∀ w ∈ wsX40, w ∈ wsX4_findEnds := by decide +kernel
theorem hd_X4_openColumns : yX4_openColumns.cls = RX4 ∧ yX4_openColumns.cls ≠ "java/lang/invoke/MethodHandle" ∧ yX4_openColumns.cls ≠ "java/lang/invoke/VarHandle" ∧ (parseMethodDescriptor yX4_openColumns.desc).map (fun d => d.parameters.length) = some 2 := by decide +kernel
theorem hd_X4_noteEnd : yX4_noteEnd.cls = RX4 ∧ yX4_noteEnd.cls ≠ "java/lang/invoke/MethodHandle" ∧ yX4_noteEnd.cls ≠ "java/lang/invoke/VarHandle" ∧ (parseMethodDescriptor yX4_noteEnd.desc).map (fun d => d.parameters.length) = some 3 := by decide +kernel
theorem fi_X4_findEnds_X5 : ∀ w ∈ wsX50, w ∈ wsX4_findEnds := by decide +kernel
theorem hd_X4_stepColumns : yX4_stepColumns.cls = RX4 ∧ yX4_stepColumns.cls ≠ "java/lang/invoke/MethodHandle" ∧ yX4_stepColumns.cls ≠ "java/lang/invoke/VarHandle" ∧ (parseMethodDescriptor yX4_stepColumns.desc).map (fun d => d.parameters.length) = some 3 := by decide +kernel
set_option maxHeartbeats 4000000 in
set_option maxRecDepth 100000 in
theorem c_X4_findEnds (l : Launch) (G : GX) (ad : Nat → Nat) (S : XS) (q0 : PatD) (jq0 : Nat) (hq_q0 : (x_pool S)[jq0]? = some q0) (hm0 : pd_cnt q0 ≤ 60) (hk0 : st_most (x_now S) ≤ 4) (hT0 : okT (st_text (x_now S)) (st_len (x_now S))) (hn0 : st_len (x_now S) ≤ 120) : CtV l yX4_findEnds wsX4_findEnds { frames := 3, cells := 0, slots := 0, locals := 85 } G (wX G ad) (S) [.ref (ad 24), .ref (ad 0), .ref (pd_a q0)] (fun S' => ∃ cf sf ef, S' = u_listed (u_ends (u_slipsAt (u_cols S cf) sf) ef) (cS (selX q0 S) (st_len (x_now S) + 1)) ∧ LR ef (selX q0 S) (st_len (x_now S) + 1) ∧ ∀ e, e ≤ st_len (x_now S) → sf e = slipV (dcol (tkX (pd_ptf q0) (st_text (x_now S))) (mayB (pd_bnd q0) (st_text (x_now S))) e (pd_cnt q0)) (st_most (x_now S))) 0 0 := by
  refine CtV.of (cc := cX4_findEnds) (maxL := 4) (ret := none) (by decide +kernel) rfl (Nat.le_of_ble_eq_true rfl) ?_
  intro p e s m args below meth c ls A hC hr hlk hin hK hA hX hl
  have hl : lv_has ls 4 [(0, .ref (ad 24)), (1, .ref (ad 0)), (2, .ref (pd_a q0))] := hl
  have hdl : ∀ e, e ≤ 120 → dcol (tkX (pd_ptf q0) (st_text (x_now S))) (mayB (pd_bnd q0) (st_text (x_now S))) e (pd_cnt q0) < 2 ^ 31 := fun e he => by
    have := dcol_le (tkX (pd_ptf q0) (st_text (x_now S))) (mayB (pd_bnd q0) (st_text (x_now S))) e (pd_cnt q0)
    omega
  refine lv_aload_n hC.1 hC.2.1 dX4_findEnds_0 rfl (lv_at hl 0 rfl) ?_
  refine lv_iconst (v := nI (0)) hC.1 hC.2.1 dX4_findEnds_1 rfl ?_
  refine p_search_listed hC fi_X4_findEnds_X4 hK hX (v := 0) (wd9 hC 1 rfl) dX4_findEnds_2 (fun H locs hX => ?_)
  replace hX : HH G A s.heap (wX G ad (u_listed (S) (0))) H locs := hX
  refine lv_aload_n hC.1 hC.2.1 dX4_findEnds_5 rfl (lv_at hl 0 rfl) ?_
  refine lv_aload_n hC.1 hC.2.1 dX4_findEnds_6 rfl (lv_at hl 1 rfl) ?_
  refine lv_aload_n hC.1 hC.2.1 dX4_findEnds_7 rfl (lv_at hl 2 rfl) ?_
  refine cv_V (As := [.ref (ad 0), .ref (pd_a q0)]) (rest := []) hC hK hA hX (c_X4_openColumns l G ad (u_listed (S) (0)) q0 _ hq_q0 (by assumption) (by assumption)) (cwV 2 hC.2.2.2.2 gX4_findEnds_X4_openColumns rfl rfl rfl hd_X4_openColumns ⟨Nat.le_of_ble_eq_true rfl, Nat.le_of_ble_eq_true rfl⟩) (ci := 4) (q := (RX4, TX4, 8)) rfl (q0 := 24) rfl dX4_findEnds_8 rfl hl.1 rfl (Nat.le_of_ble_eq_true rfl) ⟨(Nat.zero_le _), (Nat.zero_le _)⟩ (fun S9 H locs hp9 hX => ?_)
  obtain ⟨cf8, hS9, hcol8⟩ := hp9
  rw [hS9] at hX
  replace hX : HH G A s.heap (wX G ad (u_listed (u_cols (S) (cf8)) (0))) H locs := hX
  refine lv_aload_n hC.1 hC.2.1 dX4_findEnds_11 rfl (lv_at hl 0 rfl) ?_
  refine lv_aload_n hC.1 hC.2.1 dX4_findEnds_12 rfl (lv_at hl 1 rfl) ?_
  refine lv_aload_n hC.1 hC.2.1 dX4_findEnds_13 rfl (lv_at hl 2 rfl) ?_
  refine lv_iconst (v := nI (0)) hC.1 hC.2.1 dX4_findEnds_14 rfl ?_
  refine cv_V (As := [.ref (ad 0), .ref (pd_a q0), .int (nI (0))]) (rest := []) hC hK hA hX (c_X4_noteEnd l G ad (u_listed (u_cols (S) (cf8)) (0)) q0 _ hq_q0 hm0 hk0 (0) (by omega) (dcol (tkX (pd_ptf q0) (st_text (x_now S))) (mayB (pd_bnd q0) (st_text (x_now S))) 0) hcol8 (hdl 0 (by omega)) (selX q0 S) rfl rfl LR_0) (cwV 3 hC.2.2.2.2 gX4_findEnds_X4_noteEnd rfl rfl rfl hd_X4_noteEnd ⟨Nat.le_of_ble_eq_true rfl, Nat.le_of_ble_eq_true rfl⟩) (ci := 4) (q := (RX4, TX4, 8)) rfl (q0 := 24) rfl dX4_findEnds_15 rfl hl.1 rfl (Nat.le_of_ble_eq_true rfl) ⟨(Nat.zero_le _), (Nat.zero_le _)⟩ (fun S9 H locs hp9 hX => ?_)
  obtain ⟨ef15, hS9, hLR15⟩ := hp9
  rw [hS9] at hX
  replace hX : HH G A s.heap (wX G ad (u_listed (u_ends (u_slipsAt (u_cols (S) (cf8)) (upd (x_slipsAt S) (0) (slipV (dcol (tkX (pd_ptf q0) (st_text (x_now S))) (mayB (pd_bnd q0) (st_text (x_now S))) 0 (pd_cnt q0)) (st_most (x_now S))))) (ef15)) (cS (selX q0 S) (0 + 1)))) H locs := hX
  refine lv_iconst (v := nI (1)) hC.1 hC.2.1 dX4_findEnds_18 rfl ?_
  refine lv_istore_n (lv' := [(3, .int (nI (1))), (0, .ref (ad 24)), (1, .ref (ad 0)), (2, .ref (pd_a q0))]) hC.1 hC.2.1 dX4_findEnds_19 rfl hl (by decide) rfl (fun ls hl => ?_)
  have loop20 : ∀ (n9 : Nat) (i : Nat) (f : Nat → Int64) (sf : Nat → Int32) (ef : Nat → Nat), (i ≤ st_len (x_now S)) → (colOK f (dcol (tkX (pd_ptf q0) (st_text (x_now S))) (mayB (pd_bnd q0) (st_text (x_now S))) i) (pd_cnt q0) (st_most (x_now S))) → (∀ e, e ≤ i → sf e = slipV (dcol (tkX (pd_ptf q0) (st_text (x_now S))) (mayB (pd_bnd q0) (st_text (x_now S))) e (pd_cnt q0)) (st_most (x_now S))) → (LR ef (selX q0 S) (i + 1)) → st_len (x_now S) - i < n9 → ∀ (H : Heap) (locs : List Loc) (ls : Array Slot), HH G A s.heap (wX G ad (u_listed (u_ends (u_slipsAt (u_cols (S) (f)) (sf)) (ef)) (cS (selX q0 S) (i + 1)))) H locs → lv_has ls 4 [(3, .int (nI (i + 1))), (0, .ref (ad 24)), (1, .ref (ad 0)), (2, .ref (pd_a q0))] → W p l e { frames := 3, cells := 0, slots := 0, locals := 85 } s m args below meth c H locs 0 0 (EndV G (wX G ad) A (fun S' => ∃ cf sf ef, S' = u_listed (u_ends (u_slipsAt (u_cols S cf) sf) ef) (cS (selX q0 S) (st_len (x_now S) + 1)) ∧ LR ef (selX q0 S) (st_len (x_now S) + 1) ∧ ∀ e, e ≤ st_len (x_now S) → sf e = slipV (dcol (tkX (pd_ptf q0) (st_text (x_now S))) (mayB (pd_bnd q0) (st_text (x_now S))) e (pd_cnt q0)) (st_most (x_now S))) below args s 0 0) (F0 m 20 ls []) := by
    intro n9
    induction n9 with
    | zero => intro i f sf ef hi hcf hsf hLR hn9; exact absurd hn9 (Nat.not_lt_zero _)
    | succ n9 ih20 =>
      intro i f sf ef hi hcf hsf hLR hn9 H locs ls hX hl
      refine lv_iload_n hC.1 hC.2.1 dX4_findEnds_20 rfl (lv_at hl 0 rfl) ?_
      refine lv_aload_n hC.1 hC.2.1 dX4_findEnds_21 rfl (lv_at hl 2 rfl) ?_
      refine gN_len (k := 0) (by decide) hC fi_X4_findEnds_X5 hK hX (hnf hK 10 rfl) dX4_findEnds_22 (v := st_len (x_now S)) rfl ?_
      refine n_icmp_gt hC (a := i + 1) (b := st_len (x_now S)) (tgt := 54) dX4_findEnds_25 (by decide) (by omega) (by omega) (fun c25 => ?_) (fun c25 => ?_)
      · skip
        refine r_return hC hr hlk hX dX4_findEnds_54 ?_
        obtain rfl : i = st_len (x_now S) := by omega
        exact ⟨f, sf, ef, rfl, hLR, hsf⟩
      · skip
        refine lv_iload_n hC.1 hC.2.1 dX4_findEnds_28 rfl (lv_at hl 0 rfl) ?_
        refine lv_bipush (v := nI (120)) hC.1 hC.2.1 dX4_findEnds_29 (by decide +kernel) ?_
        refine n_icmp_gt hC (a := i + 1) (b := 120) (tgt := 54) dX4_findEnds_31 (by decide) (by omega) (by decide) (fun c31 => ?_) (fun c31 => ?_)
        · exfalso; omega
        · skip
          refine lv_aload_n hC.1 hC.2.1 dX4_findEnds_34 rfl (lv_at hl 1 rfl) ?_
          refine lv_aload_n hC.1 hC.2.1 dX4_findEnds_35 rfl (lv_at hl 2 rfl) ?_
          refine lv_aload_n hC.1 hC.2.1 dX4_findEnds_36 rfl (lv_at hl 3 rfl) ?_
          refine lv_iload_n hC.1 hC.2.1 dX4_findEnds_37 rfl (lv_at hl 0 rfl) ?_
          refine cv_V (As := [.ref (ad 0), .ref (pd_a q0), .int (nI (i + 1))]) (rest := []) hC hK hA hX (c_X4_stepColumns l G ad (u_listed (u_ends (u_slipsAt (u_cols (S) (f)) (sf)) (ef)) (cS (selX q0 S) (i + 1))) q0 _ hq_q0 hm0 hk0 hT0 hn0 i (show i < st_len (x_now S) from by omega) hcf) (cwV 3 hC.2.2.2.2 gX4_findEnds_X4_stepColumns rfl rfl rfl hd_X4_stepColumns ⟨Nat.le_of_ble_eq_true rfl, Nat.le_of_ble_eq_true rfl⟩) (ci := 4) (q := (RX4, TX4, 8)) rfl (q0 := 24) rfl dX4_findEnds_38 rfl hl.1 rfl (Nat.le_of_ble_eq_true rfl) ⟨(Nat.zero_le _), (Nat.zero_le _)⟩ (fun S9 H locs hp9 hX => ?_)
          obtain ⟨cf38, hS9, hcol38⟩ := hp9
          rw [hS9] at hX
          replace hX : HH G A s.heap (wX G ad (u_listed (u_ends (u_slipsAt (u_cols (S) (cf38)) (sf)) (ef)) (cS (selX q0 S) (i + 1)))) H locs := hX
          refine lv_aload_n hC.1 hC.2.1 dX4_findEnds_41 rfl (lv_at hl 1 rfl) ?_
          refine lv_aload_n hC.1 hC.2.1 dX4_findEnds_42 rfl (lv_at hl 2 rfl) ?_
          refine lv_aload_n hC.1 hC.2.1 dX4_findEnds_43 rfl (lv_at hl 3 rfl) ?_
          refine lv_iload_n hC.1 hC.2.1 dX4_findEnds_44 rfl (lv_at hl 0 rfl) ?_
          refine cv_V (As := [.ref (ad 0), .ref (pd_a q0), .int (nI (i + 1))]) (rest := []) hC hK hA hX (c_X4_noteEnd l G ad (u_listed (u_ends (u_slipsAt (u_cols (S) (cf38)) (sf)) (ef)) (cS (selX q0 S) (i + 1))) q0 _ hq_q0 hm0 hk0 (i + 1) (by omega) (dcol (tkX (pd_ptf q0) (st_text (x_now S))) (mayB (pd_bnd q0) (st_text (x_now S))) (i + 1)) hcol38 (hdl (i + 1) (by omega)) (selX q0 S) rfl rfl hLR) (cwV 3 hC.2.2.2.2 gX4_findEnds_X4_noteEnd rfl rfl rfl hd_X4_noteEnd ⟨Nat.le_of_ble_eq_true rfl, Nat.le_of_ble_eq_true rfl⟩) (ci := 4) (q := (RX4, TX4, 8)) rfl (q0 := 24) rfl dX4_findEnds_45 rfl hl.1 rfl (Nat.le_of_ble_eq_true rfl) ⟨(Nat.zero_le _), (Nat.zero_le _)⟩ (fun S9 H locs hp9 hX => ?_)
          obtain ⟨ef45, hS9, hLR45⟩ := hp9
          rw [hS9] at hX
          replace hX : HH G A s.heap (wX G ad (u_listed (u_ends (u_slipsAt (u_cols (S) (cf38)) (upd (sf) (i + 1) (slipV (dcol (tkX (pd_ptf q0) (st_text (x_now S))) (mayB (pd_bnd q0) (st_text (x_now S))) (i + 1) (pd_cnt q0)) (st_most (x_now S))))) (ef45)) (cS (selX q0 S) (i + 1 + 1)))) H locs := hX
          refine lv_iinc (v := nI ((i + 1) + 1)) (lv' := [(3, .int (nI ((i + 1) + 1))), (0, .ref (ad 24)), (1, .ref (ad 0)), (2, .ref (pd_a q0))]) hC.1 hC.2.1 dX4_findEnds_48 hl (k := 0) rfl (n_inc1 _) (by decide) rfl (fun ls hl => ?_)
          refine lv_goto (tgt := 20) hC.1 hC.2.1 dX4_findEnds_51 (by decide) ?_
          refine ih20 (i + 1) (cf38) (upd (sf) (i + 1) (slipV (dcol (tkX (pd_ptf q0) (st_text (x_now S))) (mayB (pd_bnd q0) (st_text (x_now S))) (i + 1) (pd_cnt q0)) (st_most (x_now S)))) (ef45) ?_ ?_ ?_ ?_ ?_ _ _ ls hX (lv_sub hl [0, 1, 2, 3] rfl)
          · omega
          · exact hcol38
          · exact fun e he => by
              by_cases h : e = i + 1
              · subst h; exact pk_us
              · rw [pk_un h]; exact hsf e (by omega)
          · exact hLR45
          · omega
  refine loop20 _ (0) (cf8) (upd (x_slipsAt S) (0) (slipV (dcol (tkX (pd_ptf q0) (st_text (x_now S))) (mayB (pd_bnd q0) (st_text (x_now S))) 0 (pd_cnt q0)) (st_most (x_now S)))) (ef15) ?_ ?_ ?_ ?_ (Nat.lt_succ_self _) _ _ ls hX (lv_sub hl [0, 1, 2, 3] rfl)
  · omega
  · exact hcol8
  · exact fun e he => by
      obtain rfl : e = 0 := by omega
      exact pk_us
  · exact hLR15
theorem fi_X4_noteBeginning_X2 : ∀ w ∈ wsX20, w ∈ wsX4_noteBeginning := by decide +kernel
theorem fi_X4_noteBeginning_X4 : ∀ w ∈ wsX40, w ∈ wsX4_noteBeginning := by decide +kernel
set_option maxHeartbeats 4000000 in
set_option maxRecDepth 100000 in
theorem c_X4_noteBeginning (l : Launch) (G : GX) (ad : Nat → Nat) (S : XS) (q0 : PatD) (jq0 : Nat) (hq_q0 : (x_pool S)[jq0]? = some q0) (hm0 : pd_cnt q0 ≤ 60) (e0 : Nat) (he0 : e0 ≤ 120) (hk0 : x_keys S (pd_cnt q0) < 2 ^ 31) : CtV l yX4_noteBeginning wsX4_noteBeginning { frames := 0, cells := 0, slots := 0, locals := 0 } G (wX G ad) (S) [.ref (ad 24), .ref (pd_a q0), .int (nI (e0))] (fun S' => S' = u_begAt S (va_up (x_begAt S) e0 (127 - x_keys S (pd_cnt q0) % 128))) 0 0 := by
  refine CtV.of (cc := cX4_noteBeginning) (maxL := 4) (ret := none) (by decide +kernel) rfl (Nat.le_of_ble_eq_true rfl) ?_
  intro p e s m args below meth c ls A hC hr hlk hin hK hA hX hl
  have hl : lv_has ls 4 [(0, .ref (ad 24)), (1, .ref (pd_a q0)), (2, .int (nI (e0)))] := hl
  refine lv_aload_n hC.1 hC.2.1 dX4_noteBeginning_0 rfl (lv_at hl 1 rfl) ?_
  refine gN_pat_placeCount hC fi_X4_noteBeginning_X2 hK hX hq_q0 (hnf hK 11 rfl) dX4_noteBeginning_1 (v := pd_cnt q0) rfl ?_
  refine lv_istore_n (lv' := [(3, .int (nI (pd_cnt q0))), (0, .ref (ad 24)), (1, .ref (pd_a q0)), (2, .int (nI (e0)))]) hC.1 hC.2.1 dX4_noteBeginning_4 rfl hl (by decide) rfl (fun ls hl => ?_)
  refine lv_iload_n hC.1 hC.2.1 dX4_noteBeginning_5 rfl (lv_at hl 0 rfl) ?_
  refine n_if_lt hC (a := pd_cnt q0) (tgt := 44) dX4_noteBeginning_6 (by decide) (by omega) ?_
  refine lv_iload_n hC.1 hC.2.1 dX4_noteBeginning_9 rfl (lv_at hl 0 rfl) ?_
  refine lv_bipush (v := nI (60)) hC.1 hC.2.1 dX4_noteBeginning_10 (by decide +kernel) ?_
  refine n_icmp_gt hC (a := pd_cnt q0) (b := 60) (tgt := 44) dX4_noteBeginning_12 (by decide) (by omega) (by decide) (fun c12 => ?_) (fun c12 => ?_)
  · exfalso; omega
  · skip
    refine lv_iload_n hC.1 hC.2.1 dX4_noteBeginning_15 rfl (lv_at hl 3 rfl) ?_
    refine n_if_lt hC (a := e0) (tgt := 44) dX4_noteBeginning_16 (by decide) (by omega) ?_
    refine lv_iload_n hC.1 hC.2.1 dX4_noteBeginning_19 rfl (lv_at hl 3 rfl) ?_
    refine lv_bipush (v := nI (120)) hC.1 hC.2.1 dX4_noteBeginning_20 (by decide +kernel) ?_
    refine n_icmp_gt hC (a := e0) (b := 120) (tgt := 44) dX4_noteBeginning_22 (by decide) (by omega) (by decide) (fun c22 => ?_) (fun c22 => ?_)
    · exfalso; omega
    · skip
      refine lv_aload_n hC.1 hC.2.1 dX4_noteBeginning_25 rfl (lv_at hl 1 rfl) ?_
      refine g_search_beginningAt hC fi_X4_noteBeginning_X4 hK hX (wd9 hC 1 rfl) dX4_noteBeginning_26 ?_
      refine lv_iload_n hC.1 hC.2.1 dX4_noteBeginning_29 rfl (lv_at hl 3 rfl) ?_
      refine lv_bipush (v := nI (127)) hC.1 hC.2.1 dX4_noteBeginning_30 (by decide +kernel) ?_
      refine lv_aload_n hC.1 hC.2.1 dX4_noteBeginning_32 rfl (lv_at hl 1 rfl) ?_
      refine g_search_keys hC fi_X4_noteBeginning_X4 hK hX (wd9 hC 2 rfl) dX4_noteBeginning_33 ?_
      refine lv_iload_n hC.1 hC.2.1 dX4_noteBeginning_36 rfl (lv_at hl 0 rfl) ?_
      refine l_keys hC hK hX (i := pd_cnt q0) (by omega) dX4_noteBeginning_37 (v := (x_keys S) (pd_cnt q0)) rfl ?_
      refine lv_sipush (v := nI (128)) hC.1 hC.2.1 dX4_noteBeginning_38 (by decide +kernel) ?_
      refine lv_irem hC.1 hC.2.1 dX4_noteBeginning_41 (by decide +kernel) ?_
      refine n_top (y := nI (x_keys S (pd_cnt q0) % 128)) (pk_rem (by omega) (by decide) (by decide)) ?_
      refine n_sub hC (a := 127) (b := x_keys S (pd_cnt q0) % 128) dX4_noteBeginning_42 (by omega) ?_
      refine s_begAt hC hK hX (i := e0) (v := (127) - (x_keys S (pd_cnt q0) % 128)) (by omega) dX4_noteBeginning_43 (fun H locs hX => ?_)
      replace hX : HH G A s.heap (wX G ad (u_begAt (S) (va_up (x_begAt S) (e0) ((127) - (x_keys S (pd_cnt q0) % 128))))) H locs := hX
      refine r_return hC hr hlk hX dX4_noteBeginning_44 ?_
      exact rfl
theorem fi_X4_stepKeys_X4 : ∀ w ∈ wsX40, w ∈ wsX4_stepKeys := by decide +kernel
theorem fi_X4_stepKeys_X2 : ∀ w ∈ wsX20, w ∈ wsX4_stepKeys := by decide +kernel
set_option maxHeartbeats 4000000 in
set_option maxRecDepth 100000 in
theorem c_X4_stepKeys (l : Launch) (G : GX) (ad : Nat → Nat) (S : XS) (q0 : PatD) (jq0 : Nat) (hq_q0 : (x_pool S)[jq0]? = some q0) (hm0 : pd_cnt q0 ≤ 60) (hT0 : okT (st_text (x_now S)) (st_len (x_now S))) (hn0 : st_len (x_now S) ≤ 120) (e0 : Nat) (he0 : e0 < st_len (x_now S)) (hc0 : ∀ i, i ≤ pd_cnt q0 → x_keys S i = kcol (tkX (pd_ptf q0) (st_text (x_now S))) (mayB (pd_bnd q0) (st_text (x_now S))) e0 i) : CtV l yX4_stepKeys wsX4_stepKeys { frames := 2, cells := 0, slots := 0, locals := 43 } G (wX G ad) (S) [.ref (ad 24), .ref (ad 0), .ref (pd_a q0), .int (nI (e0 + 1))] (fun S' => ∃ f, S' = u_keys S f ∧ ∀ i, i ≤ pd_cnt q0 → f i = kcol (tkX (pd_ptf q0) (st_text (x_now S))) (mayB (pd_bnd q0) (st_text (x_now S))) (e0 + 1) i) 0 0 := by
  refine CtV.of (cc := cX4_stepKeys) (maxL := 12) (ret := none) (by decide +kernel) rfl (Nat.le_of_ble_eq_true rfl) ?_
  intro p e s m args below meth c ls A hC hr hlk hin hK hA hX hl
  have hl : lv_has ls 12 [(0, .ref (ad 24)), (1, .ref (ad 0)), (2, .ref (pd_a q0)), (3, .int (nI (e0 + 1)))] := hl
  have hT1 := hT0.1
  have hT2 := hT0.2 e0 he0
  have hkl := kcol_le (tkX (pd_ptf q0) (st_text (x_now S))) (mayB (pd_bnd q0) (st_text (x_now S)))
  refine lv_aload_n hC.1 hC.2.1 dX4_stepKeys_0 rfl (lv_at hl 2 rfl) ?_
  refine lv_aload_n hC.1 hC.2.1 dX4_stepKeys_1 rfl (lv_at hl 1 rfl) ?_
  refine lv_iload_n hC.1 hC.2.1 dX4_stepKeys_2 rfl (lv_at hl 3 rfl) ?_
  refine lv_iconst (v := nI (1)) hC.1 hC.2.1 dX4_stepKeys_3 rfl ?_
  refine n_sub hC (a := e0 + 1) (b := 1) dX4_stepKeys_4 (by omega) ?_
  refine n_top (y := nI (e0)) rfl ?_
  refine cv_I (As := [.int (nI (e0))]) (rest := [.ref (pd_a q0)]) hC hK hA hX (c_X5_signAt l G ad (S) (e0) (by omega) (hT1 _)) (cwV 1 hC.2.2.2.2 gX4_stepKeys_X5_signAt rfl rfl rfl hd_X5_signAt ⟨Nat.le_of_ble_eq_true rfl, Nat.le_of_ble_eq_true rfl⟩) (ci := 5) (q := (RX5, TX5, 5)) rfl (q0 := 0) rfl dX4_stepKeys_5 rfl hl.1 rfl (Nat.le_of_ble_eq_true rfl) ⟨(Nat.zero_le _), (Nat.zero_le _)⟩ (fun r9 S9 H locs hp9 hX => ?_)
  obtain ⟨rfl, hS9⟩ := hp9
  rw [hS9] at hX
  replace hX : HH G A s.heap (wX G ad (S)) H locs := hX
  refine cv_L (As := [.int (nI ((st_text (x_now S)) e0))]) (rest := []) hC hK hA hX (c_X2_placesThatTake l G ad (S) q0 _ hq_q0 ((st_text (x_now S)) e0) hT2) (cwV 1 hC.2.2.2.2 gX4_stepKeys_X2_placesThatTake rfl rfl rfl hd_X2_placesThatTake ⟨Nat.le_of_ble_eq_true rfl, Nat.le_of_ble_eq_true rfl⟩) (ci := 2) (q := (RX2, TX2, 4)) rfl (wX_pa hq_q0) dX4_stepKeys_8 rfl hl.1 rfl (Nat.le_of_ble_eq_true rfl) ⟨(Nat.zero_le _), (Nat.zero_le _)⟩ (fun r9 S9 H locs hp9 hX => ?_)
  obtain ⟨rfl, hS9⟩ := hp9
  rw [hS9] at hX
  replace hX : HH G A s.heap (wX G ad (S)) H locs := hX
  refine lv_lstore (lv' := [(4, .long (pd_ptf q0 (sgc ((st_text (x_now S)) e0)))), (0, .ref (ad 24)), (1, .ref (ad 0)), (2, .ref (pd_a q0)), (3, .int (nI (e0 + 1)))]) hC.1 hC.2.1 dX4_stepKeys_11 hl (by decide) rfl (fun ls hl => ?_)
  refine lv_aload_n hC.1 hC.2.1 dX4_stepKeys_13 rfl (lv_at hl 1 rfl) ?_
  refine g_search_keys hC fi_X4_stepKeys_X4 hK hX (wd9 hC 1 rfl) dX4_stepKeys_14 ?_
  refine lv_iconst (v := nI (0)) hC.1 hC.2.1 dX4_stepKeys_17 rfl ?_
  refine l_keys hC hK hX (i := 0) (by decide) dX4_stepKeys_18 (v := (x_keys S) 0) rfl ?_
  refine lv_istore (lv' := [(6, .int (nI ((x_keys S) 0))), (4, .long (pd_ptf q0 (sgc ((st_text (x_now S)) e0)))), (0, .ref (ad 24)), (1, .ref (ad 0)), (2, .ref (pd_a q0)), (3, .int (nI (e0 + 1)))]) hC.1 hC.2.1 dX4_stepKeys_19 hl (by decide) rfl (fun ls hl => ?_)
  refine lv_aload_n hC.1 hC.2.1 dX4_stepKeys_21 rfl (lv_at hl 2 rfl) ?_
  refine g_search_keys hC fi_X4_stepKeys_X4 hK hX (wd9 hC 1 rfl) dX4_stepKeys_22 ?_
  refine lv_iconst (v := nI (0)) hC.1 hC.2.1 dX4_stepKeys_25 rfl ?_
  refine lv_aload_n hC.1 hC.2.1 dX4_stepKeys_26 rfl (lv_at hl 3 rfl) ?_
  refine lv_aload_n hC.1 hC.2.1 dX4_stepKeys_27 rfl (lv_at hl 4 rfl) ?_
  refine lv_iload_n hC.1 hC.2.1 dX4_stepKeys_28 rfl (lv_at hl 5 rfl) ?_
  refine cv_I (As := [.ref (pd_a q0), .int (nI (e0 + 1))]) (rest := [.int (nI (0)), .ref (ad 26)]) hC hK hA hX (c_X5_mayBegin l G ad (S) q0 _ hq_q0 (e0 + 1) (by omega) (by assumption)) (cwV 2 hC.2.2.2.2 gX4_stepKeys_X5_mayBegin rfl rfl rfl hd_X5_mayBegin ⟨Nat.le_of_ble_eq_true rfl, Nat.le_of_ble_eq_true rfl⟩) (ci := 5) (q := (RX5, TX5, 5)) rfl (q0 := 0) rfl dX4_stepKeys_29 rfl hl.1 rfl (Nat.le_of_ble_eq_true rfl) ⟨(Nat.zero_le _), (Nat.zero_le _)⟩ (fun r9 S9 H locs hp9 hX => ?_)
  obtain ⟨rfl, hS9⟩ := hp9
  rw [hS9] at hX
  replace hX : HH G A s.heap (wX G ad (S)) H locs := hX
  have join52 : ∀ (H : Heap) (locs : List Loc) (ls : Array Slot), HH G A s.heap (wX G ad (S)) H locs → lv_has ls 12 [(6, .int (nI ((x_keys S) 0))), (4, .long (pd_ptf q0 (sgc ((st_text (x_now S)) e0)))), (0, .ref (ad 24)), (1, .ref (ad 0)), (2, .ref (pd_a q0)), (3, .int (nI (e0 + 1)))] → W p l e { frames := 2, cells := 0, slots := 0, locals := 43 } s m args below meth c H locs 0 0 (EndV G (wX G ad) A (fun S' => ∃ f, S' = u_keys S f ∧ ∀ i, i ≤ pd_cnt q0 → f i = kcol (tkX (pd_ptf q0) (st_text (x_now S))) (mayB (pd_bnd q0) (st_text (x_now S))) (e0 + 1) i) below args s 0 0) (F0 m 52 ls [.int (nI (kcol (tkX (pd_ptf q0) (st_text (x_now S))) (mayB (pd_bnd q0) (st_text (x_now S))) (e0 + 1) 0)), .int (nI (0)), .ref (ad 26)]) := by
    intro  H locs ls  hX hl
    refine s_keys hC hK hX (i := 0) (v := kcol (tkX (pd_ptf q0) (st_text (x_now S))) (mayB (pd_bnd q0) (st_text (x_now S))) (e0 + 1) 0) (by decide) dX4_stepKeys_52 (fun H locs hX => ?_)
    replace hX : HH G A s.heap (wX G ad (u_keys (S) (va_up (x_keys S) (0) (kcol (tkX (pd_ptf q0) (st_text (x_now S))) (mayB (pd_bnd q0) (st_text (x_now S))) (e0 + 1) 0)))) H locs := hX
    refine lv_iconst (v := nI (1)) hC.1 hC.2.1 dX4_stepKeys_53 rfl ?_
    refine lv_istore (lv' := [(7, .int (nI (1))), (6, .int (nI ((x_keys S) 0))), (4, .long (pd_ptf q0 (sgc ((st_text (x_now S)) e0)))), (0, .ref (ad 24)), (1, .ref (ad 0)), (2, .ref (pd_a q0)), (3, .int (nI (e0 + 1)))]) hC.1 hC.2.1 dX4_stepKeys_54 hl (by decide) rfl (fun ls hl => ?_)
    have loop56 : ∀ (n9 : Nat) (i : Nat) (f : Nat → Nat), (i ≤ pd_cnt q0) → (∀ j, j ≤ i → f j = kcol (tkX (pd_ptf q0) (st_text (x_now S))) (mayB (pd_bnd q0) (st_text (x_now S))) (e0 + 1) j) → (∀ j, i < j → f j = x_keys S j) → pd_cnt q0 - i < n9 → ∀ (H : Heap) (locs : List Loc) (ls : Array Slot), HH G A s.heap (wX G ad (u_keys (S) (f))) H locs → lv_has ls 12 [(7, .int (nI (i + 1))), (6, .int (nI (x_keys S i))), (4, .long (pd_ptf q0 (sgc ((st_text (x_now S)) e0)))), (0, .ref (ad 24)), (1, .ref (ad 0)), (2, .ref (pd_a q0)), (3, .int (nI (e0 + 1)))] → W p l e { frames := 2, cells := 0, slots := 0, locals := 43 } s m args below meth c H locs 0 0 (EndV G (wX G ad) A (fun S' => ∃ f, S' = u_keys S f ∧ ∀ i, i ≤ pd_cnt q0 → f i = kcol (tkX (pd_ptf q0) (st_text (x_now S))) (mayB (pd_bnd q0) (st_text (x_now S))) (e0 + 1) i) below args s 0 0) (F0 m 56 ls []) := by
      intro n9
      induction n9 with
      | zero => intro i f hi hf1 hf2 hn9; exact absurd hn9 (Nat.not_lt_zero _)
      | succ n9 ih56 =>
        intro i f hi hf1 hf2 hn9 H locs ls hX hl
        have hb1 := hkl (e0 + 1) i
        have hb2 := hkl e0 i
        have hb3 := hkl e0 (i + 1)
        have hb4 := hc0 i hi
        refine lv_iload hC.1 hC.2.1 dX4_stepKeys_56 (lv_at hl 0 rfl) ?_
        refine lv_bipush (v := nI (60)) hC.1 hC.2.1 dX4_stepKeys_58 (by decide +kernel) ?_
        refine n_icmp_gt hC (a := i + 1) (b := 60) (tgt := 173) dX4_stepKeys_60 (by decide) (by omega) (by decide) (fun c60 => ?_) (fun c60 => ?_)
        · skip
          refine r_return hC hr hlk hX dX4_stepKeys_173 ?_
          exact ⟨f, rfl, fun j hj => hf1 j (by omega)⟩
        · skip
          refine lv_iload hC.1 hC.2.1 dX4_stepKeys_63 (lv_at hl 0 rfl) ?_
          refine lv_aload_n hC.1 hC.2.1 dX4_stepKeys_65 rfl (lv_at hl 5 rfl) ?_
          refine gN_pat_placeCount hC fi_X4_stepKeys_X2 hK hX hq_q0 (hnf hK 11 rfl) dX4_stepKeys_66 (v := pd_cnt q0) rfl ?_
          refine n_icmp_gt hC (a := i + 1) (b := pd_cnt q0) (tgt := 173) dX4_stepKeys_69 (by decide) (by omega) (by omega) (fun c69 => ?_) (fun c69 => ?_)
          · skip
            refine r_return hC hr hlk hX dX4_stepKeys_173 ?_
            exact ⟨f, rfl, fun j hj => hf1 j (by omega)⟩
          · skip
            have hb5 := hc0 (i + 1) (by omega)
            refine lv_lload hC.1 hC.2.1 dX4_stepKeys_72 (lv_at hl 2 rfl) ?_
            refine lv_iload hC.1 hC.2.1 dX4_stepKeys_74 (lv_at hl 0 rfl) ?_
            refine lv_iconst (v := nI (1)) hC.1 hC.2.1 dX4_stepKeys_76 rfl ?_
            refine n_sub hC (a := i + 1) (b := 1) dX4_stepKeys_77 (by omega) ?_
            refine n_top (y := nI (i)) rfl ?_
            refine lv_lushr hC.1 hC.2.1 dX4_stepKeys_78 rfl ?_
            refine lv_lconst (v := lN 1) hC.1 hC.2.1 dX4_stepKeys_79 rfl ?_
            refine lv_land hC.1 hC.2.1 dX4_stepKeys_80 ?_
            refine lv_lconst (v := lN 0) hC.1 hC.2.1 dX4_stepKeys_81 rfl ?_
            refine W.lcmp hC.1 hC.2.1 dX4_stepKeys_82 ?_
            have join91 : ∀ (H : Heap) (locs : List Loc) (ls : Array Slot), HH G A s.heap (wX G ad (u_keys (S) (f))) H locs → lv_has ls 12 [(7, .int (nI (i + 1))), (6, .int (nI (x_keys S i))), (4, .long (pd_ptf q0 (sgc ((st_text (x_now S)) e0)))), (0, .ref (ad 24)), (1, .ref (ad 0)), (2, .ref (pd_a q0)), (3, .int (nI (e0 + 1)))] → W p l e { frames := 2, cells := 0, slots := 0, locals := 43 } s m args below meth c H locs 0 0 (EndV G (wX G ad) A (fun S' => ∃ f, S' = u_keys S f ∧ ∀ i, i ≤ pd_cnt q0 → f i = kcol (tkX (pd_ptf q0) (st_text (x_now S))) (mayB (pd_bnd q0) (st_text (x_now S))) (e0 + 1) i) below args s 0 0) (F0 m 91 ls [.int (bI ((tkX (pd_ptf q0) (st_text (x_now S))) i e0))]) := by
              intro  H locs ls  hX hl
              refine lv_istore (lv' := [(8, .int (bI ((tkX (pd_ptf q0) (st_text (x_now S))) i e0))), (7, .int (nI (i + 1))), (6, .int (nI (x_keys S i))), (4, .long (pd_ptf q0 (sgc ((st_text (x_now S)) e0)))), (0, .ref (ad 24)), (1, .ref (ad 0)), (2, .ref (pd_a q0)), (3, .int (nI (e0 + 1)))]) hC.1 hC.2.1 dX4_stepKeys_91 hl (by decide) rfl (fun ls hl => ?_)
              refine lv_aload_n hC.1 hC.2.1 dX4_stepKeys_93 rfl (lv_at hl 4 rfl) ?_
              refine g_search_keys hC fi_X4_stepKeys_X4 hK hX (wd9 hC 1 rfl) dX4_stepKeys_94 ?_
              refine lv_iload hC.1 hC.2.1 dX4_stepKeys_97 (lv_at hl 1 rfl) ?_
              refine l_keys hC hK hX (i := i + 1) (by omega) dX4_stepKeys_99 (v := x_keys S (i + 1)) (hf2 (i + 1) (by omega)) ?_
              refine lv_sipush (v := nI (128)) hC.1 hC.2.1 dX4_stepKeys_100 (by decide +kernel) ?_
              refine n_add hC (a := x_keys S (i + 1)) (b := 128) dX4_stepKeys_103 ?_
              refine lv_istore (lv' := [(9, .int (nI ((x_keys S (i + 1)) + (128)))), (8, .int (bI ((tkX (pd_ptf q0) (st_text (x_now S))) i e0))), (7, .int (nI (i + 1))), (6, .int (nI (x_keys S i))), (4, .long (pd_ptf q0 (sgc ((st_text (x_now S)) e0)))), (0, .ref (ad 24)), (1, .ref (ad 0)), (2, .ref (pd_a q0)), (3, .int (nI (e0 + 1)))]) hC.1 hC.2.1 dX4_stepKeys_104 hl (by decide) rfl (fun ls hl => ?_)
              refine lv_aload_n hC.1 hC.2.1 dX4_stepKeys_106 rfl (lv_at hl 5 rfl) ?_
              refine g_search_keys hC fi_X4_stepKeys_X4 hK hX (wd9 hC 1 rfl) dX4_stepKeys_107 ?_
              refine lv_iload hC.1 hC.2.1 dX4_stepKeys_110 (lv_at hl 2 rfl) ?_
              refine lv_iconst (v := nI (1)) hC.1 hC.2.1 dX4_stepKeys_112 rfl ?_
              refine n_sub hC (a := i + 1) (b := 1) dX4_stepKeys_113 (by omega) ?_
              refine l_keys hC hK hX (i := (i + 1) - (1)) (by omega) dX4_stepKeys_114 (v := kcol (tkX (pd_ptf q0) (st_text (x_now S))) (mayB (pd_bnd q0) (st_text (x_now S))) (e0 + 1) i) (hf1 i (Nat.le_refl i)) ?_
              refine lv_sipush (v := nI (128)) hC.1 hC.2.1 dX4_stepKeys_115 (by decide +kernel) ?_
              refine n_add hC (a := kcol (tkX (pd_ptf q0) (st_text (x_now S))) (mayB (pd_bnd q0) (st_text (x_now S))) (e0 + 1) i) (b := 128) dX4_stepKeys_118 ?_
              refine lv_istore (lv' := [(10, .int (nI ((kcol (tkX (pd_ptf q0) (st_text (x_now S))) (mayB (pd_bnd q0) (st_text (x_now S))) (e0 + 1) i) + (128)))), (9, .int (nI ((x_keys S (i + 1)) + (128)))), (8, .int (bI ((tkX (pd_ptf q0) (st_text (x_now S))) i e0))), (7, .int (nI (i + 1))), (6, .int (nI (x_keys S i))), (4, .long (pd_ptf q0 (sgc ((st_text (x_now S)) e0)))), (0, .ref (ad 24)), (1, .ref (ad 0)), (2, .ref (pd_a q0)), (3, .int (nI (e0 + 1)))]) hC.1 hC.2.1 dX4_stepKeys_119 hl (by decide) rfl (fun ls hl => ?_)
              refine lv_iload hC.1 hC.2.1 dX4_stepKeys_121 (lv_at hl 2 rfl) ?_
              have join137 : ∀ (H : Heap) (locs : List Loc) (ls : Array Slot), HH G A s.heap (wX G ad (u_keys (S) (f))) H locs → lv_has ls 12 [(10, .int (nI ((kcol (tkX (pd_ptf q0) (st_text (x_now S))) (mayB (pd_bnd q0) (st_text (x_now S))) (e0 + 1) i) + (128)))), (9, .int (nI ((x_keys S (i + 1)) + (128)))), (8, .int (bI ((tkX (pd_ptf q0) (st_text (x_now S))) i e0))), (7, .int (nI (i + 1))), (6, .int (nI (x_keys S i))), (4, .long (pd_ptf q0 (sgc ((st_text (x_now S)) e0)))), (0, .ref (ad 24)), (1, .ref (ad 0)), (2, .ref (pd_a q0)), (3, .int (nI (e0 + 1)))] → W p l e { frames := 2, cells := 0, slots := 0, locals := 43 } s m args below meth c H locs 0 0 (EndV G (wX G ad) A (fun S' => ∃ f, S' = u_keys S f ∧ ∀ i, i ≤ pd_cnt q0 → f i = kcol (tkX (pd_ptf q0) (st_text (x_now S))) (mayB (pd_bnd q0) (st_text (x_now S))) (e0 + 1) i) below args s 0 0) (F0 m 137 ls [.int (nI (x_keys S i + if (tkX (pd_ptf q0) (st_text (x_now S))) i e0 = true then 0 else 128))]) := by
                intro  H locs ls  hX hl
                refine lv_istore (lv' := [(11, .int (nI (x_keys S i + if (tkX (pd_ptf q0) (st_text (x_now S))) i e0 = true then 0 else 128))), (10, .int (nI ((kcol (tkX (pd_ptf q0) (st_text (x_now S))) (mayB (pd_bnd q0) (st_text (x_now S))) (e0 + 1) i) + (128)))), (9, .int (nI ((x_keys S (i + 1)) + (128)))), (8, .int (bI ((tkX (pd_ptf q0) (st_text (x_now S))) i e0))), (7, .int (nI (i + 1))), (6, .int (nI (x_keys S i))), (4, .long (pd_ptf q0 (sgc ((st_text (x_now S)) e0)))), (0, .ref (ad 24)), (1, .ref (ad 0)), (2, .ref (pd_a q0)), (3, .int (nI (e0 + 1)))]) hC.1 hC.2.1 dX4_stepKeys_137 hl (by decide) rfl (fun ls hl => ?_)
                refine lv_aload_n hC.1 hC.2.1 dX4_stepKeys_139 rfl (lv_at hl 7 rfl) ?_
                refine g_search_keys hC fi_X4_stepKeys_X4 hK hX (wd9 hC 1 rfl) dX4_stepKeys_140 ?_
                refine lv_iload hC.1 hC.2.1 dX4_stepKeys_143 (lv_at hl 4 rfl) ?_
                refine l_keys hC hK hX (i := i + 1) (by omega) dX4_stepKeys_145 (v := x_keys S (i + 1)) (hf2 (i + 1) (by omega)) ?_
                refine lv_istore (lv' := [(6, .int (nI (x_keys S (i + 1)))), (11, .int (nI (x_keys S i + if (tkX (pd_ptf q0) (st_text (x_now S))) i e0 = true then 0 else 128))), (10, .int (nI ((kcol (tkX (pd_ptf q0) (st_text (x_now S))) (mayB (pd_bnd q0) (st_text (x_now S))) (e0 + 1) i) + (128)))), (9, .int (nI ((x_keys S (i + 1)) + (128)))), (8, .int (bI ((tkX (pd_ptf q0) (st_text (x_now S))) i e0))), (7, .int (nI (i + 1))), (4, .long (pd_ptf q0 (sgc ((st_text (x_now S)) e0)))), (0, .ref (ad 24)), (1, .ref (ad 0)), (2, .ref (pd_a q0)), (3, .int (nI (e0 + 1)))]) hC.1 hC.2.1 dX4_stepKeys_146 hl (by decide) rfl (fun ls hl => ?_)
                refine lv_aload_n hC.1 hC.2.1 dX4_stepKeys_148 rfl (lv_at hl 7 rfl) ?_
                refine g_search_keys hC fi_X4_stepKeys_X4 hK hX (wd9 hC 1 rfl) dX4_stepKeys_149 ?_
                refine lv_iload hC.1 hC.2.1 dX4_stepKeys_152 (lv_at hl 5 rfl) ?_
                refine lv_iload hC.1 hC.2.1 dX4_stepKeys_154 (lv_at hl 1 rfl) ?_
                refine lv_iload hC.1 hC.2.1 dX4_stepKeys_156 (lv_at hl 3 rfl) ?_
                refine lv_iload hC.1 hC.2.1 dX4_stepKeys_158 (lv_at hl 2 rfl) ?_
                refine va_mmin hC.1 hC.2.1 (hC.2.2.1.trans hl.1.symm) hC.2.2.2.1 (wd9 hC 2 rfl) (wd9 hC 3 rfl) (wd9 hC 4 rfl) (wd9 hC 5 rfl) (Nat.le_of_ble_eq_true rfl) (Nat.le_of_ble_eq_true rfl) (Nat.zero_le _) (Nat.zero_le _) dX4_stepKeys_160 ?_
                refine n_top (y := nI (min (x_keys S (i + 1) + 128) (kcol (tkX (pd_ptf q0) (st_text (x_now S))) (mayB (pd_bnd q0) (st_text (x_now S))) (e0 + 1) i + 128))) (nI_min (by omega) (by omega)) ?_
                refine va_mmin hC.1 hC.2.1 (hC.2.2.1.trans hl.1.symm) hC.2.2.2.1 (wd9 hC 2 rfl) (wd9 hC 3 rfl) (wd9 hC 4 rfl) (wd9 hC 5 rfl) (Nat.le_of_ble_eq_true rfl) (Nat.le_of_ble_eq_true rfl) (Nat.zero_le _) (Nat.zero_le _) dX4_stepKeys_163 ?_
                refine n_top (y := nI (min (x_keys S i + if (tkX (pd_ptf q0) (st_text (x_now S))) i e0 = true then 0 else 128) (min (x_keys S (i + 1) + 128) (kcol (tkX (pd_ptf q0) (st_text (x_now S))) (mayB (pd_bnd q0) (st_text (x_now S))) (e0 + 1) i + 128)))) (nI_min (by split <;> omega) (by omega)) ?_
                refine s_keys hC hK hX (i := i + 1) (v := min (x_keys S i + if (tkX (pd_ptf q0) (st_text (x_now S))) i e0 = true then 0 else 128) (min (x_keys S (i + 1) + 128) (kcol (tkX (pd_ptf q0) (st_text (x_now S))) (mayB (pd_bnd q0) (st_text (x_now S))) (e0 + 1) i + 128))) (by omega) dX4_stepKeys_166 (fun H locs hX => ?_)
                replace hX : HH G A s.heap (wX G ad (u_keys (S) (va_up (f) (i + 1) (min (x_keys S i + if (tkX (pd_ptf q0) (st_text (x_now S))) i e0 = true then 0 else 128) (min (x_keys S (i + 1) + 128) (kcol (tkX (pd_ptf q0) (st_text (x_now S))) (mayB (pd_bnd q0) (st_text (x_now S))) (e0 + 1) i + 128)))))) H locs := hX
                refine lv_iinc (v := nI ((i + 1) + 1)) (lv' := [(7, .int (nI ((i + 1) + 1))), (6, .int (nI (x_keys S (i + 1)))), (11, .int (nI (x_keys S i + if (tkX (pd_ptf q0) (st_text (x_now S))) i e0 = true then 0 else 128))), (10, .int (nI ((kcol (tkX (pd_ptf q0) (st_text (x_now S))) (mayB (pd_bnd q0) (st_text (x_now S))) (e0 + 1) i) + (128)))), (9, .int (nI ((x_keys S (i + 1)) + (128)))), (8, .int (bI ((tkX (pd_ptf q0) (st_text (x_now S))) i e0))), (4, .long (pd_ptf q0 (sgc ((st_text (x_now S)) e0)))), (0, .ref (ad 24)), (1, .ref (ad 0)), (2, .ref (pd_a q0)), (3, .int (nI (e0 + 1)))]) hC.1 hC.2.1 dX4_stepKeys_167 hl (k := 5) rfl (n_inc1 _) (by decide) rfl (fun ls hl => ?_)
                refine lv_goto (tgt := 56) hC.1 hC.2.1 dX4_stepKeys_170 (by decide) ?_
                refine ih56 (i + 1) (va_up (f) (i + 1) (min (x_keys S i + if (tkX (pd_ptf q0) (st_text (x_now S))) i e0 = true then 0 else 128) (min (x_keys S (i + 1) + 128) (kcol (tkX (pd_ptf q0) (st_text (x_now S))) (mayB (pd_bnd q0) (st_text (x_now S))) (e0 + 1) i + 128)))) ?_ ?_ ?_ ?_ _ _ ls hX (lv_sub hl [0, 1, 6, 7, 8, 9, 10] rfl)
                · omega
                · exact fun j hj => by
                    by_cases h : j = i + 1
                    · subst h; rw [va_up_self, kcol_ss, hc0 i hi, hc0 (i + 1) (by omega)]
                    · rw [va_up_ne _ _ h]; exact hf1 j (by omega)
                · exact fun j hj => by rw [va_up_ne _ _ (by omega)]; exact hf2 j (by omega)
                · omega
              refine b_if_eq hC (b := (tkX (pd_ptf q0) (st_text (x_now S))) i e0) (tgt := 131) dX4_stepKeys_123 (by decide) (fun c123 => ?_) (fun c123 => ?_)
              · skip
                refine lv_iload hC.1 hC.2.1 dX4_stepKeys_131 (lv_at hl 4 rfl) ?_
                refine lv_sipush (v := nI (128)) hC.1 hC.2.1 dX4_stepKeys_133 (by decide +kernel) ?_
                refine n_add hC (a := x_keys S i) (b := 128) dX4_stepKeys_136 ?_
                refine n_top (y := nI (x_keys S i + if (tkX (pd_ptf q0) (st_text (x_now S))) i e0 = true then 0 else 128)) (by first | rw [if_pos (by assumption), Nat.add_zero] | rw [if_neg (by simp_all)]) ?_
                refine join137  _ _ ls  hX (lv_sub hl [0, 1, 2, 3, 4, 5, 6, 7, 8, 9] rfl)
              · skip
                refine lv_iload hC.1 hC.2.1 dX4_stepKeys_126 (lv_at hl 4 rfl) ?_
                refine lv_goto (tgt := 137) hC.1 hC.2.1 dX4_stepKeys_128 (by decide) ?_
                refine n_top (y := nI (x_keys S i + if (tkX (pd_ptf q0) (st_text (x_now S))) i e0 = true then 0 else 128)) (by first | rw [if_pos (by assumption), Nat.add_zero] | rw [if_neg (by simp_all)]) ?_
                refine join137  _ _ ls  hX (lv_sub hl [0, 1, 2, 3, 4, 5, 6, 7, 8, 9] rfl)
            refine lv_if_eq hC.1 hC.2.1 (x := lg_cmp ((((pd_ptf q0 (sgc ((st_text (x_now S)) e0))).toUInt64 >>> ((nI (i)).toInt64.toUInt64 &&& Int64.toUInt64 63)).toInt64) &&& (lN 1)) (lN 0)) (tgt := 90) dX4_stepKeys_83 (by decide) (fun c83 => ?_) (fun c83 => ?_)
            · skip
              refine lv_iconst (v := nI (0)) hC.1 hC.2.1 dX4_stepKeys_90 rfl ?_
              refine n_top (y := bI ((tkX (pd_ptf q0) (st_text (x_now S))) i e0)) (by first | exact bI_0 ((colBit (by omega)).mp c83) | exact bI_1 (by have h9 := c83; rw [colBit (by omega)] at h9; simpa [tkX] using h9)) ?_
              refine join91  _ _ ls  hX (lv_sub hl [0, 1, 2, 3, 4, 5, 6] rfl)
            · skip
              refine lv_iconst (v := nI (1)) hC.1 hC.2.1 dX4_stepKeys_86 rfl ?_
              refine lv_goto (tgt := 91) hC.1 hC.2.1 dX4_stepKeys_87 (by decide) ?_
              refine n_top (y := bI ((tkX (pd_ptf q0) (st_text (x_now S))) i e0)) (by first | exact bI_0 ((colBit (by omega)).mp c83) | exact bI_1 (by have h9 := c83; rw [colBit (by omega)] at h9; simpa [tkX] using h9)) ?_
              refine join91  _ _ ls  hX (lv_sub hl [0, 1, 2, 3, 4, 5, 6] rfl)
    refine loop56 _ (0) (va_up (x_keys S) (0) (kcol (tkX (pd_ptf q0) (st_text (x_now S))) (mayB (pd_bnd q0) (st_text (x_now S))) (e0 + 1) 0)) ?_ ?_ ?_ (Nat.lt_succ_self _) _ _ ls hX (lv_sub hl [0, 1, 2, 3, 4, 5, 6] rfl)
    · omega
    · exact fun j hj => by
        obtain rfl : j = 0 := by omega
        exact va_up_self _ _ _
    · exact fun j hj => va_up_ne _ _ (by omega)
  refine b_if_eq hC (b := mayB (pd_bnd q0) (st_text (x_now S)) (e0 + 1)) (tgt := 42) dX4_stepKeys_32 (by decide) (fun c32 => ?_) (fun c32 => ?_)
  · skip
    refine lv_aload_n hC.1 hC.2.1 dX4_stepKeys_42 rfl (lv_at hl 2 rfl) ?_
    refine g_search_keys hC fi_X4_stepKeys_X4 hK hX (wd9 hC 1 rfl) dX4_stepKeys_43 ?_
    refine lv_iconst (v := nI (0)) hC.1 hC.2.1 dX4_stepKeys_46 rfl ?_
    refine l_keys hC hK hX (i := 0) (by decide) dX4_stepKeys_47 (v := (x_keys S) 0) rfl ?_
    refine lv_sipush (v := nI (128)) hC.1 hC.2.1 dX4_stepKeys_48 (by decide +kernel) ?_
    refine n_add hC (a := (x_keys S) 0) (b := 128) dX4_stepKeys_51 ?_
    refine n_top (y := nI (kcol (tkX (pd_ptf q0) (st_text (x_now S))) (mayB (pd_bnd q0) (st_text (x_now S))) (e0 + 1) 0)) (by rw [kcol_s0]; first | rw [if_pos (by assumption)] | rw [if_neg (by simp_all), ← hc0 0 (Nat.zero_le _)]) ?_
    refine join52  _ _ ls  hX (lv_sub hl [0, 1, 2, 3, 4, 5] rfl)
  · skip
    refine lv_bipush (v := nI (127)) hC.1 hC.2.1 dX4_stepKeys_35 (by decide +kernel) ?_
    refine lv_iload_n hC.1 hC.2.1 dX4_stepKeys_37 rfl (lv_at hl 5 rfl) ?_
    refine n_sub hC (a := 127) (b := e0 + 1) dX4_stepKeys_38 (by omega) ?_
    refine lv_goto (tgt := 52) hC.1 hC.2.1 dX4_stepKeys_39 (by decide) ?_
    refine n_top (y := nI (kcol (tkX (pd_ptf q0) (st_text (x_now S))) (mayB (pd_bnd q0) (st_text (x_now S))) (e0 + 1) 0)) (by rw [kcol_s0]; first | rw [if_pos (by assumption)] | rw [if_neg (by simp_all), ← hc0 0 (Nat.zero_le _)]) ?_
    refine join52  _ _ ls  hX (lv_sub hl [0, 1, 2, 3, 4, 5] rfl)
theorem fi_X4_findBeginnings_X4 : ∀ w ∈ wsX40, w ∈ wsX4_findBeginnings := by decide +kernel
theorem hd_X4_noteBeginning : yX4_noteBeginning.cls = RX4 ∧ yX4_noteBeginning.cls ≠ "java/lang/invoke/MethodHandle" ∧ yX4_noteBeginning.cls ≠ "java/lang/invoke/VarHandle" ∧ (parseMethodDescriptor yX4_noteBeginning.desc).map (fun d => d.parameters.length) = some 2 := by decide +kernel
theorem fi_X4_findBeginnings_X5 : ∀ w ∈ wsX50, w ∈ wsX4_findBeginnings := by decide +kernel
theorem hd_X4_stepKeys : yX4_stepKeys.cls = RX4 ∧ yX4_stepKeys.cls ≠ "java/lang/invoke/MethodHandle" ∧ yX4_stepKeys.cls ≠ "java/lang/invoke/VarHandle" ∧ (parseMethodDescriptor yX4_stepKeys.desc).map (fun d => d.parameters.length) = some 3 := by decide +kernel
set_option maxHeartbeats 4000000 in
set_option maxRecDepth 100000 in
theorem c_X4_findBeginnings (l : Launch) (G : GX) (ad : Nat → Nat) (S : XS) (q0 : PatD) (jq0 : Nat) (hq_q0 : (x_pool S)[jq0]? = some q0) (hm0 : pd_cnt q0 ≤ 60) (hT0 : okT (st_text (x_now S)) (st_len (x_now S))) (hn0 : st_len (x_now S) ≤ 120) : CtV l yX4_findBeginnings wsX4_findBeginnings { frames := 3, cells := 0, slots := 0, locals := 74 } G (wX G ad) (S) [.ref (ad 24), .ref (ad 0), .ref (pd_a q0)] (fun S' => ∃ kf bf, S' = u_begAt (u_keys S kf) bf ∧ ∀ e, e ≤ st_len (x_now S) → bf e = bcol (tkX (pd_ptf q0) (st_text (x_now S))) (mayB (pd_bnd q0) (st_text (x_now S))) e (pd_cnt q0)) 0 0 := by
  refine CtV.of (cc := cX4_findBeginnings) (maxL := 4) (ret := none) (by decide +kernel) rfl (Nat.le_of_ble_eq_true rfl) ?_
  intro p e s m args below meth c ls A hC hr hlk hin hK hA hX hl
  have hl : lv_has ls 4 [(0, .ref (ad 24)), (1, .ref (ad 0)), (2, .ref (pd_a q0))] := hl
  have hkl := kcol_le (tkX (pd_ptf q0) (st_text (x_now S))) (mayB (pd_bnd q0) (st_text (x_now S)))
  refine lv_aload_n hC.1 hC.2.1 dX4_findBeginnings_0 rfl (lv_at hl 0 rfl) ?_
  refine g_search_keys hC fi_X4_findBeginnings_X4 hK hX (wd9 hC 1 rfl) dX4_findBeginnings_1 ?_
  refine lv_iconst (v := nI (0)) hC.1 hC.2.1 dX4_findBeginnings_4 rfl ?_
  refine lv_bipush (v := nI (127)) hC.1 hC.2.1 dX4_findBeginnings_5 (by decide +kernel) ?_
  refine s_keys hC hK hX (i := 0) (v := 127) (by decide) dX4_findBeginnings_7 (fun H locs hX => ?_)
  replace hX : HH G A s.heap (wX G ad (u_keys (S) (va_up (x_keys S) (0) (127)))) H locs := hX
  refine lv_iconst (v := nI (1)) hC.1 hC.2.1 dX4_findBeginnings_8 rfl ?_
  refine lv_istore_n (lv' := [(3, .int (nI (1))), (0, .ref (ad 24)), (1, .ref (ad 0)), (2, .ref (pd_a q0))]) hC.1 hC.2.1 dX4_findBeginnings_9 rfl hl (by decide) rfl (fun ls hl => ?_)
  have loop10 : ∀ (n9 : Nat) (i : Nat) (f : Nat → Nat), (i ≤ 60) → (∀ j, j ≤ i → f j = 127 + 128 * j) → 60 - i < n9 → ∀ (H : Heap) (locs : List Loc) (ls : Array Slot), HH G A s.heap (wX G ad (u_keys (S) (f))) H locs → lv_has ls 4 [(3, .int (nI (i + 1))), (0, .ref (ad 24)), (1, .ref (ad 0)), (2, .ref (pd_a q0))] → W p l e { frames := 3, cells := 0, slots := 0, locals := 74 } s m args below meth c H locs 0 0 (EndV G (wX G ad) A (fun S' => ∃ kf bf, S' = u_begAt (u_keys S kf) bf ∧ ∀ e, e ≤ st_len (x_now S) → bf e = bcol (tkX (pd_ptf q0) (st_text (x_now S))) (mayB (pd_bnd q0) (st_text (x_now S))) e (pd_cnt q0)) below args s 0 0) (F0 m 10 ls []) := by
    intro n9
    induction n9 with
    | zero => intro i f hi hf hn9; exact absurd hn9 (Nat.not_lt_zero _)
    | succ n9 ih10 =>
      intro i f hi hf hn9 H locs ls hX hl
      refine lv_iload_n hC.1 hC.2.1 dX4_findBeginnings_10 rfl (lv_at hl 0 rfl) ?_
      refine lv_bipush (v := nI (60)) hC.1 hC.2.1 dX4_findBeginnings_11 (by decide +kernel) ?_
      refine n_icmp_gt hC (a := i + 1) (b := 60) (tgt := 40) dX4_findBeginnings_13 (by decide) (by omega) (by decide) (fun c13 => ?_) (fun c13 => ?_)
      · skip
        refine lv_aload_n hC.1 hC.2.1 dX4_findBeginnings_40 rfl (lv_at hl 1 rfl) ?_
        refine lv_aload_n hC.1 hC.2.1 dX4_findBeginnings_41 rfl (lv_at hl 3 rfl) ?_
        refine lv_iconst (v := nI (0)) hC.1 hC.2.1 dX4_findBeginnings_42 rfl ?_
        refine cv_V (As := [.ref (pd_a q0), .int (nI (0))]) (rest := []) hC hK hA hX (c_X4_noteBeginning l G ad (u_keys (S) (f)) q0 _ hq_q0 hm0 (0) (by omega) (show f (pd_cnt q0) < 2 ^ 31 from by rw [hf _ (by omega)]; omega)) (cwV 2 hC.2.2.2.2 gX4_findBeginnings_X4_noteBeginning rfl rfl rfl hd_X4_noteBeginning ⟨Nat.le_of_ble_eq_true rfl, Nat.le_of_ble_eq_true rfl⟩) (ci := 4) (q := (RX4, TX4, 8)) rfl (q0 := 24) rfl dX4_findBeginnings_43 rfl hl.1 rfl (Nat.le_of_ble_eq_true rfl) ⟨(Nat.zero_le _), (Nat.zero_le _)⟩ (fun S9 H locs hp9 hX => ?_)
        rw [hp9] at hX
        replace hX : HH G A s.heap (wX G ad (u_begAt (u_keys (S) (f)) (va_up (x_begAt S) (0) (127 - (f) (pd_cnt q0) % 128)))) H locs := hX
        refine lv_iconst (v := nI (1)) hC.1 hC.2.1 dX4_findBeginnings_46 rfl ?_
        refine lv_istore_n (lv' := [(3, .int (nI (1))), (0, .ref (ad 24)), (1, .ref (ad 0)), (2, .ref (pd_a q0))]) hC.1 hC.2.1 dX4_findBeginnings_47 rfl hl (by decide) rfl (fun ls hl => ?_)
        have loop48 : ∀ (n9 : Nat) (i : Nat) (kf : Nat → Nat) (bf : Nat → Nat), (i ≤ st_len (x_now S)) → (∀ j, j ≤ pd_cnt q0 → kf j = kcol (tkX (pd_ptf q0) (st_text (x_now S))) (mayB (pd_bnd q0) (st_text (x_now S))) i j) → (∀ e, e ≤ i → bf e = bcol (tkX (pd_ptf q0) (st_text (x_now S))) (mayB (pd_bnd q0) (st_text (x_now S))) e (pd_cnt q0)) → st_len (x_now S) - i < n9 → ∀ (H : Heap) (locs : List Loc) (ls : Array Slot), HH G A s.heap (wX G ad (u_begAt (u_keys (S) (kf)) (bf))) H locs → lv_has ls 4 [(3, .int (nI (i + 1))), (0, .ref (ad 24)), (1, .ref (ad 0)), (2, .ref (pd_a q0))] → W p l e { frames := 3, cells := 0, slots := 0, locals := 74 } s m args below meth c H locs 0 0 (EndV G (wX G ad) A (fun S' => ∃ kf bf, S' = u_begAt (u_keys S kf) bf ∧ ∀ e, e ≤ st_len (x_now S) → bf e = bcol (tkX (pd_ptf q0) (st_text (x_now S))) (mayB (pd_bnd q0) (st_text (x_now S))) e (pd_cnt q0)) below args s 0 0) (F0 m 48 ls []) := by
          intro n9
          induction n9 with
          | zero => intro i kf bf hi hkf hbf hn9; exact absurd hn9 (Nat.not_lt_zero _)
          | succ n9 ih48 =>
            intro i kf bf hi hkf hbf hn9 H locs ls hX hl
            refine lv_iload_n hC.1 hC.2.1 dX4_findBeginnings_48 rfl (lv_at hl 0 rfl) ?_
            refine lv_aload_n hC.1 hC.2.1 dX4_findBeginnings_49 rfl (lv_at hl 2 rfl) ?_
            refine gN_len (k := 0) (by decide) hC fi_X4_findBeginnings_X5 hK hX (hnf hK 10 rfl) dX4_findBeginnings_50 (v := st_len (x_now S)) rfl ?_
            refine n_icmp_gt hC (a := i + 1) (b := st_len (x_now S)) (tgt := 81) dX4_findBeginnings_53 (by decide) (by omega) (by omega) (fun c53 => ?_) (fun c53 => ?_)
            · skip
              refine r_return hC hr hlk hX dX4_findBeginnings_81 ?_
              obtain rfl : i = st_len (x_now S) := by omega
              exact ⟨kf, bf, rfl, hbf⟩
            · skip
              refine lv_iload_n hC.1 hC.2.1 dX4_findBeginnings_56 rfl (lv_at hl 0 rfl) ?_
              refine lv_bipush (v := nI (120)) hC.1 hC.2.1 dX4_findBeginnings_57 (by decide +kernel) ?_
              refine n_icmp_gt hC (a := i + 1) (b := 120) (tgt := 81) dX4_findBeginnings_59 (by decide) (by omega) (by decide) (fun c59 => ?_) (fun c59 => ?_)
              · exfalso; omega
              · skip
                refine lv_aload_n hC.1 hC.2.1 dX4_findBeginnings_62 rfl (lv_at hl 1 rfl) ?_
                refine lv_aload_n hC.1 hC.2.1 dX4_findBeginnings_63 rfl (lv_at hl 2 rfl) ?_
                refine lv_aload_n hC.1 hC.2.1 dX4_findBeginnings_64 rfl (lv_at hl 3 rfl) ?_
                refine lv_iload_n hC.1 hC.2.1 dX4_findBeginnings_65 rfl (lv_at hl 0 rfl) ?_
                refine cv_V (As := [.ref (ad 0), .ref (pd_a q0), .int (nI (i + 1))]) (rest := []) hC hK hA hX (c_X4_stepKeys l G ad (u_begAt (u_keys (S) (kf)) (bf)) q0 _ hq_q0 hm0 hT0 hn0 i (show i < st_len (x_now S) from by omega) hkf) (cwV 3 hC.2.2.2.2 gX4_findBeginnings_X4_stepKeys rfl rfl rfl hd_X4_stepKeys ⟨Nat.le_of_ble_eq_true rfl, Nat.le_of_ble_eq_true rfl⟩) (ci := 4) (q := (RX4, TX4, 8)) rfl (q0 := 24) rfl dX4_findBeginnings_66 rfl hl.1 rfl (Nat.le_of_ble_eq_true rfl) ⟨(Nat.zero_le _), (Nat.zero_le _)⟩ (fun S9 H locs hp9 hX => ?_)
                obtain ⟨kf66, hS9, hkf66⟩ := hp9
                rw [hS9] at hX
                replace hX : HH G A s.heap (wX G ad (u_begAt (u_keys (S) (kf66)) (bf))) H locs := hX
                refine lv_aload_n hC.1 hC.2.1 dX4_findBeginnings_69 rfl (lv_at hl 1 rfl) ?_
                refine lv_aload_n hC.1 hC.2.1 dX4_findBeginnings_70 rfl (lv_at hl 3 rfl) ?_
                refine lv_iload_n hC.1 hC.2.1 dX4_findBeginnings_71 rfl (lv_at hl 0 rfl) ?_
                refine cv_V (As := [.ref (pd_a q0), .int (nI (i + 1))]) (rest := []) hC hK hA hX (c_X4_noteBeginning l G ad (u_begAt (u_keys (S) (kf66)) (bf)) q0 _ hq_q0 hm0 (i + 1) (by omega) (Nat.lt_of_le_of_lt (Nat.le_trans (Nat.le_of_eq (hkf66 _ (Nat.le_refl _))) (hkl (i + 1) (pd_cnt q0))) (by omega))) (cwV 2 hC.2.2.2.2 gX4_findBeginnings_X4_noteBeginning rfl rfl rfl hd_X4_noteBeginning ⟨Nat.le_of_ble_eq_true rfl, Nat.le_of_ble_eq_true rfl⟩) (ci := 4) (q := (RX4, TX4, 8)) rfl (q0 := 24) rfl dX4_findBeginnings_72 rfl hl.1 rfl (Nat.le_of_ble_eq_true rfl) ⟨(Nat.zero_le _), (Nat.zero_le _)⟩ (fun S9 H locs hp9 hX => ?_)
                rw [hp9] at hX
                replace hX : HH G A s.heap (wX G ad (u_begAt (u_keys (S) (kf66)) (va_up (bf) (i + 1) (127 - (kf66) (pd_cnt q0) % 128)))) H locs := hX
                refine lv_iinc (v := nI ((i + 1) + 1)) (lv' := [(3, .int (nI ((i + 1) + 1))), (0, .ref (ad 24)), (1, .ref (ad 0)), (2, .ref (pd_a q0))]) hC.1 hC.2.1 dX4_findBeginnings_75 hl (k := 0) rfl (n_inc1 _) (by decide) rfl (fun ls hl => ?_)
                refine lv_goto (tgt := 48) hC.1 hC.2.1 dX4_findBeginnings_78 (by decide) ?_
                refine ih48 (i + 1) (kf66) (va_up (bf) (i + 1) (127 - (kf66) (pd_cnt q0) % 128)) ?_ ?_ ?_ ?_ _ _ ls hX (lv_sub hl [0, 1, 2, 3] rfl)
                · omega
                · exact hkf66
                · exact fun e he => by
                    by_cases h : e = i + 1
                    · subst h; rw [va_up_self, hkf66 _ (Nat.le_refl _)]; rfl
                    · rw [va_up_ne _ _ h]; exact hbf e (by omega)
                · omega
        refine loop48 _ (0) (f) (va_up (x_begAt S) (0) (127 - (f) (pd_cnt q0) % 128)) ?_ ?_ ?_ (Nat.lt_succ_self _) _ _ ls hX (lv_sub hl [0, 1, 2, 3] rfl)
        · omega
        · exact fun j hj => by rw [hf j (by omega), kcol_0]
        · exact fun e he => by
            obtain rfl : e = 0 := by omega
            rw [va_up_self, hf _ (by omega)]; rfl
      · skip
        refine lv_aload_n hC.1 hC.2.1 dX4_findBeginnings_16 rfl (lv_at hl 1 rfl) ?_
        refine g_search_keys hC fi_X4_findBeginnings_X4 hK hX (wd9 hC 1 rfl) dX4_findBeginnings_17 ?_
        refine lv_iload_n hC.1 hC.2.1 dX4_findBeginnings_20 rfl (lv_at hl 0 rfl) ?_
        refine lv_aload_n hC.1 hC.2.1 dX4_findBeginnings_21 rfl (lv_at hl 1 rfl) ?_
        refine g_search_keys hC fi_X4_findBeginnings_X4 hK hX (wd9 hC 1 rfl) dX4_findBeginnings_22 ?_
        refine lv_iload_n hC.1 hC.2.1 dX4_findBeginnings_25 rfl (lv_at hl 0 rfl) ?_
        refine lv_iconst (v := nI (1)) hC.1 hC.2.1 dX4_findBeginnings_26 rfl ?_
        refine n_sub hC (a := i + 1) (b := 1) dX4_findBeginnings_27 (by omega) ?_
        refine n_top (y := nI (i)) rfl ?_
        refine l_keys hC hK hX (i := i) (by omega) dX4_findBeginnings_28 (v := 127 + 128 * i) (hf i (Nat.le_refl i)) ?_
        refine lv_sipush (v := nI (128)) hC.1 hC.2.1 dX4_findBeginnings_29 (by decide +kernel) ?_
        refine n_add hC (a := 127 + 128 * i) (b := 128) dX4_findBeginnings_32 ?_
        refine s_keys hC hK hX (i := i + 1) (v := (127 + 128 * i) + (128)) (by omega) dX4_findBeginnings_33 (fun H locs hX => ?_)
        replace hX : HH G A s.heap (wX G ad (u_keys (S) (va_up (f) (i + 1) ((127 + 128 * i) + (128))))) H locs := hX
        refine lv_iinc (v := nI ((i + 1) + 1)) (lv' := [(3, .int (nI ((i + 1) + 1))), (0, .ref (ad 24)), (1, .ref (ad 0)), (2, .ref (pd_a q0))]) hC.1 hC.2.1 dX4_findBeginnings_34 hl (k := 0) rfl (n_inc1 _) (by decide) rfl (fun ls hl => ?_)
        refine lv_goto (tgt := 10) hC.1 hC.2.1 dX4_findBeginnings_37 (by decide) ?_
        refine ih10 (i + 1) (va_up (f) (i + 1) ((127 + 128 * i) + (128))) ?_ ?_ ?_ _ _ ls hX (lv_sub hl [0, 1, 2, 3] rfl)
        · omega
        · exact fun j hj => by
            by_cases h : j = i + 1
            · subst h; rw [va_up_self]; omega
            · rw [va_up_ne _ _ h]; exact hf j (by omega)
        · omega
  refine loop10 _ (0) (va_up (x_keys S) (0) (127)) ?_ ?_ (Nat.lt_succ_self _) _ _ ls hX (lv_sub hl [0, 1, 2, 3] rfl)
  · omega
  · exact fun j hj => by
      obtain rfl : j = 0 := by omega
      exact va_up_self _ _ _
theorem fi_X4_columnAt_X4 : ∀ w ∈ wsX40, w ∈ wsX4_columnAt := by decide +kernel
set_option maxHeartbeats 4000000 in
set_option maxRecDepth 100000 in
theorem c_X4_columnAt (l : Launch) (G : GX) (ad : Nat → Nat) (S : XS) (q0 : PatD) (jq0 : Nat) (hq_q0 : (x_pool S)[jq0]? = some q0) (hm0 : pd_cnt q0 ≤ 60) (hk0 : st_most (x_now S) ≤ 4) (hT0 : okT (st_text (x_now S)) (st_len (x_now S))) (hn0 : st_len (x_now S) ≤ 120) (k0 e0 : Nat) (hk1 : k0 ≤ st_most (x_now S)) (he0 : e0 ≤ st_len (x_now S)) : CtL l yX4_columnAt wsX4_columnAt { frames := 3, cells := 0, slots := 0, locals := 85 } G (wX G ad) (S) [.ref (ad 24), .ref (ad 0), .ref (pd_a q0), .int (nI (k0)), .int (nI (e0))] (fun r S' => ∃ f, S' = u_cols S f ∧ ∀ b, b < 64 → lbit r b = decide (b + 1 ≤ pd_cnt q0 ∧ dcol (tkX (pd_ptf q0) (st_text (x_now S))) (mayB (pd_bnd q0) (st_text (x_now S))) e0 (b + 1) ≤ k0)) 0 0 := by
  refine CtL.of (cc := cX4_columnAt) (maxL := 6) (ret := some .long) (by decide +kernel) rfl (Nat.le_of_ble_eq_true rfl) ?_
  intro p e s m args below meth c ls A hC hr hlk hin hK hA hX hl
  have hl : lv_has ls 6 [(0, .ref (ad 24)), (1, .ref (ad 0)), (2, .ref (pd_a q0)), (3, .int (nI (k0))), (4, .int (nI (e0)))] := hl
  refine lv_aload_n hC.1 hC.2.1 dX4_columnAt_0 rfl (lv_at hl 0 rfl) ?_
  refine lv_aload_n hC.1 hC.2.1 dX4_columnAt_1 rfl (lv_at hl 1 rfl) ?_
  refine lv_aload_n hC.1 hC.2.1 dX4_columnAt_2 rfl (lv_at hl 2 rfl) ?_
  refine cv_V (As := [.ref (ad 0), .ref (pd_a q0)]) (rest := []) hC hK hA hX (c_X4_openColumns l G ad (S) q0 _ hq_q0 (by assumption) (by assumption)) (cwV 2 hC.2.2.2.2 gX4_columnAt_X4_openColumns rfl rfl rfl hd_X4_openColumns ⟨Nat.le_of_ble_eq_true rfl, Nat.le_of_ble_eq_true rfl⟩) (ci := 4) (q := (RX4, TX4, 8)) rfl (q0 := 24) rfl dX4_columnAt_3 rfl hl.1 rfl (Nat.le_of_ble_eq_true rfl) ⟨(Nat.zero_le _), (Nat.zero_le _)⟩ (fun S9 H locs hp9 hX => ?_)
  obtain ⟨cf3, hS9, hcol3⟩ := hp9
  rw [hS9] at hX
  replace hX : HH G A s.heap (wX G ad (u_cols (S) (cf3))) H locs := hX
  refine lv_iconst (v := nI (1)) hC.1 hC.2.1 dX4_columnAt_6 rfl ?_
  refine lv_istore (lv' := [(5, .int (nI (1))), (0, .ref (ad 24)), (1, .ref (ad 0)), (2, .ref (pd_a q0)), (3, .int (nI (k0))), (4, .int (nI (e0)))]) hC.1 hC.2.1 dX4_columnAt_7 hl (by decide) rfl (fun ls hl => ?_)
  have loop9 : ∀ (n9 : Nat) (i : Nat) (f : Nat → Int64), (i ≤ e0) → (colOK f (dcol (tkX (pd_ptf q0) (st_text (x_now S))) (mayB (pd_bnd q0) (st_text (x_now S))) i) (pd_cnt q0) (st_most (x_now S))) → e0 - i < n9 → ∀ (H : Heap) (locs : List Loc) (ls : Array Slot), HH G A s.heap (wX G ad (u_cols (S) (f))) H locs → lv_has ls 6 [(5, .int (nI (i + 1))), (0, .ref (ad 24)), (1, .ref (ad 0)), (2, .ref (pd_a q0)), (3, .int (nI (k0))), (4, .int (nI (e0)))] → W p l e { frames := 3, cells := 0, slots := 0, locals := 85 } s m args below meth c H locs 0 0 (EndL G (wX G ad) A (fun r S' => ∃ f, S' = u_cols S f ∧ ∀ b, b < 64 → lbit r b = decide (b + 1 ≤ pd_cnt q0 ∧ dcol (tkX (pd_ptf q0) (st_text (x_now S))) (mayB (pd_bnd q0) (st_text (x_now S))) e0 (b + 1) ≤ k0)) below args s 0 0) (F0 m 9 ls []) := by
    intro n9
    induction n9 with
    | zero => intro i f hi hcf hn9; exact absurd hn9 (Nat.not_lt_zero _)
    | succ n9 ih9 =>
      intro i f hi hcf hn9 H locs ls hX hl
      refine lv_iload hC.1 hC.2.1 dX4_columnAt_9 (lv_at hl 0 rfl) ?_
      refine lv_iload hC.1 hC.2.1 dX4_columnAt_11 (lv_at hl 5 rfl) ?_
      refine n_icmp_gt hC (a := i + 1) (b := e0) (tgt := 37) dX4_columnAt_13 (by decide) (by omega) (by omega) (fun c13 => ?_) (fun c13 => ?_)
      · skip
        refine lv_iload_n hC.1 hC.2.1 dX4_columnAt_37 rfl (lv_at hl 4 rfl) ?_
        refine n_if_lt hC (a := k0) (tgt := 57) dX4_columnAt_38 (by decide) (by omega) ?_
        refine lv_iload_n hC.1 hC.2.1 dX4_columnAt_41 rfl (lv_at hl 4 rfl) ?_
        refine lv_iconst (v := nI (4)) hC.1 hC.2.1 dX4_columnAt_42 rfl ?_
        refine n_icmp_gt hC (a := k0) (b := 4) (tgt := 57) dX4_columnAt_43 (by decide) (by omega) (by decide) (fun c43 => ?_) (fun c43 => ?_)
        · exfalso; omega
        · skip
          refine lv_aload_n hC.1 hC.2.1 dX4_columnAt_46 rfl (lv_at hl 1 rfl) ?_
          refine g_search_columns hC fi_X4_columnAt_X4 hK hX (wd9 hC 1 rfl) dX4_columnAt_47 ?_
          refine lv_iload_n hC.1 hC.2.1 dX4_columnAt_50 rfl (lv_at hl 4 rfl) ?_
          refine l_cols hC hK hX (i := k0) (by omega) dX4_columnAt_51 (v := f k0) rfl ?_
          refine lv_iconst (v := nI (1)) hC.1 hC.2.1 dX4_columnAt_52 rfl ?_
          refine lv_lushr hC.1 hC.2.1 dX4_columnAt_53 rfl ?_
          refine lv_goto (tgt := 58) hC.1 hC.2.1 dX4_columnAt_54 (by decide) ?_
          refine r_lreturn hC hr hlk hX dX4_columnAt_58 ?_
          obtain rfl : i = e0 := by omega
          refine ⟨f, rfl, fun b hb => ?_⟩
          by_cases hb9 : b < 63
          · rw [lbit_ushr _ (by decide), Nat.add_comm 1 b]; exact hcf k0 hk1 (b + 1) (by omega)
          · obtain rfl : b = 63 := by omega
            rw [lbit_ushr _ (by decide), decide_eq_false (by omega)]
            exact BitVec.getLsbD_of_ge _ _ (by decide)
      · skip
        refine lv_iload hC.1 hC.2.1 dX4_columnAt_16 (lv_at hl 0 rfl) ?_
        refine lv_bipush (v := nI (120)) hC.1 hC.2.1 dX4_columnAt_18 (by decide +kernel) ?_
        refine n_icmp_gt hC (a := i + 1) (b := 120) (tgt := 37) dX4_columnAt_20 (by decide) (by omega) (by decide) (fun c20 => ?_) (fun c20 => ?_)
        · exfalso; omega
        · skip
          refine lv_aload_n hC.1 hC.2.1 dX4_columnAt_23 rfl (lv_at hl 1 rfl) ?_
          refine lv_aload_n hC.1 hC.2.1 dX4_columnAt_24 rfl (lv_at hl 2 rfl) ?_
          refine lv_aload_n hC.1 hC.2.1 dX4_columnAt_25 rfl (lv_at hl 3 rfl) ?_
          refine lv_iload hC.1 hC.2.1 dX4_columnAt_26 (lv_at hl 0 rfl) ?_
          refine cv_V (As := [.ref (ad 0), .ref (pd_a q0), .int (nI (i + 1))]) (rest := []) hC hK hA hX (c_X4_stepColumns l G ad (u_cols (S) (f)) q0 _ hq_q0 hm0 hk0 hT0 hn0 i (show i < st_len (x_now S) from by omega) hcf) (cwV 3 hC.2.2.2.2 gX4_columnAt_X4_stepColumns rfl rfl rfl hd_X4_stepColumns ⟨Nat.le_of_ble_eq_true rfl, Nat.le_of_ble_eq_true rfl⟩) (ci := 4) (q := (RX4, TX4, 8)) rfl (q0 := 24) rfl dX4_columnAt_28 rfl hl.1 rfl (Nat.le_of_ble_eq_true rfl) ⟨(Nat.zero_le _), (Nat.zero_le _)⟩ (fun S9 H locs hp9 hX => ?_)
          obtain ⟨cf28, hS9, hcol28⟩ := hp9
          rw [hS9] at hX
          replace hX : HH G A s.heap (wX G ad (u_cols (S) (cf28))) H locs := hX
          refine lv_iinc (v := nI ((i + 1) + 1)) (lv' := [(5, .int (nI ((i + 1) + 1))), (0, .ref (ad 24)), (1, .ref (ad 0)), (2, .ref (pd_a q0)), (3, .int (nI (k0))), (4, .int (nI (e0)))]) hC.1 hC.2.1 dX4_columnAt_31 hl (k := 0) rfl (n_inc1 _) (by decide) rfl (fun ls hl => ?_)
          refine lv_goto (tgt := 9) hC.1 hC.2.1 dX4_columnAt_34 (by decide) ?_
          refine ih9 (i + 1) (cf28) ?_ ?_ ?_ _ _ ls hX (lv_sub hl [0, 1, 2, 3, 4, 5] rfl)
          · omega
          · exact hcol28
          · omega
  refine loop9 _ (0) (cf3) ?_ ?_ (Nat.lt_succ_self _) _ _ ls hX (lv_sub hl [0, 1, 2, 3, 4, 5] rfl)
  · omega
  · exact hcol3
theorem fi_X4_tell_X4 : ∀ w ∈ wsX40, w ∈ wsX4_tell := by decide +kernel
set_option maxHeartbeats 4000000 in
set_option maxRecDepth 100000 in
theorem c_X4_tell (l : Launch) (G : GX) (ad : Nat → Nat) (S : XS) (r0 w0 : Nat) (hr0 : r0 < x_listed S) (hw0 : w0 ≤ 2) (he0 : x_listed S ≤ 121 ∧ x_ends S r0 ≤ 120) : CtI l yX4_tell wsX4_tell { frames := 0, cells := 0, slots := 0, locals := 0 } G (wX G ad) (S) [.ref (ad 24), .int (nI (r0)), .int (nI (w0))] (fun r S' => r = (if w0 = 0 then nI (x_ends S r0) else if w0 = 1 then x_slipsAt S (x_ends S r0) else nI (x_begAt S (x_ends S r0))) ∧ S' = S) 0 0 := by
  refine CtI.of (cc := cX4_tell) (maxL := 4) (ret := some .int) (by decide +kernel) rfl (Nat.le_of_ble_eq_true rfl) ?_
  intro p e s m args below meth c ls A hC hr hlk hin hK hA hX hl
  have hl : lv_has ls 4 [(0, .ref (ad 24)), (1, .int (nI (r0))), (2, .int (nI (w0)))] := hl
  refine lv_iload_n hC.1 hC.2.1 dX4_tell_0 rfl (lv_at hl 1 rfl) ?_
  refine n_if_lt hC (a := r0) (tgt := 18) dX4_tell_1 (by decide) (by omega) ?_
  refine lv_iload_n hC.1 hC.2.1 dX4_tell_4 rfl (lv_at hl 1 rfl) ?_
  refine lv_aload_n hC.1 hC.2.1 dX4_tell_5 rfl (lv_at hl 0 rfl) ?_
  refine g_search_listed hC fi_X4_tell_X4 hK hX (wd9 hC 1 rfl) dX4_tell_6 (v := x_listed S) rfl ?_
  refine n_icmp_ge hC (a := r0) (b := x_listed S) (tgt := 18) dX4_tell_9 (by decide) (by omega) (by omega) (fun c9 => ?_) (fun c9 => ?_)
  · exfalso; omega
  · skip
    refine lv_iload_n hC.1 hC.2.1 dX4_tell_12 rfl (lv_at hl 1 rfl) ?_
    refine lv_bipush (v := nI (120)) hC.1 hC.2.1 dX4_tell_13 (by decide +kernel) ?_
    refine n_icmp_le hC (a := r0) (b := 120) (tgt := 21) dX4_tell_15 (by decide) (by omega) (by decide) (fun c15 => ?_) (fun c15 => ?_)
    · skip
      refine lv_aload_n hC.1 hC.2.1 dX4_tell_21 rfl (lv_at hl 0 rfl) ?_
      refine g_search_ends hC fi_X4_tell_X4 hK hX (wd9 hC 2 rfl) dX4_tell_22 ?_
      refine lv_iload_n hC.1 hC.2.1 dX4_tell_25 rfl (lv_at hl 1 rfl) ?_
      refine l_ends hC hK hX (i := r0) (by omega) dX4_tell_26 (v := (x_ends S) r0) rfl ?_
      refine lv_istore_n (lv' := [(3, .int (nI ((x_ends S) r0))), (0, .ref (ad 24)), (1, .int (nI (r0))), (2, .int (nI (w0)))]) hC.1 hC.2.1 dX4_tell_27 rfl hl (by decide) rfl (fun ls hl => ?_)
      refine lv_iload_n hC.1 hC.2.1 dX4_tell_28 rfl (lv_at hl 3 rfl) ?_
      refine n_if_eq hC (a := w0) (tgt := 42) dX4_tell_29 (by decide) (by omega) (fun c29 => ?_) (fun c29 => ?_)
      · skip
        refine lv_iload_n hC.1 hC.2.1 dX4_tell_42 rfl (lv_at hl 0 rfl) ?_
        refine r_ireturn hC hr hlk hX dX4_tell_43 ?_
        exact ⟨(if_pos (by omega)).symm, rfl⟩
      · skip
        refine lv_iload_n hC.1 hC.2.1 dX4_tell_32 rfl (lv_at hl 0 rfl) ?_
        refine n_if_lt hC (a := (x_ends S) r0) (tgt := 42) dX4_tell_33 (by decide) (by omega) ?_
        refine lv_iload_n hC.1 hC.2.1 dX4_tell_36 rfl (lv_at hl 0 rfl) ?_
        refine lv_bipush (v := nI (120)) hC.1 hC.2.1 dX4_tell_37 (by decide +kernel) ?_
        refine n_icmp_le hC (a := (x_ends S) r0) (b := 120) (tgt := 44) dX4_tell_39 (by decide) (by omega) (by decide) (fun c39 => ?_) (fun c39 => ?_)
        · skip
          refine lv_iload_n hC.1 hC.2.1 dX4_tell_44 rfl (lv_at hl 3 rfl) ?_
          refine lv_iconst (v := nI (1)) hC.1 hC.2.1 dX4_tell_45 rfl ?_
          refine n_icmp_ne hC (a := w0) (b := 1) (tgt := 58) dX4_tell_46 (by decide) (by omega) (by decide) (fun c46 => ?_) (fun c46 => ?_)
          · skip
            refine lv_aload_n hC.1 hC.2.1 dX4_tell_58 rfl (lv_at hl 1 rfl) ?_
            refine g_search_beginningAt hC fi_X4_tell_X4 hK hX (wd9 hC 4 rfl) dX4_tell_59 ?_
            refine lv_iload_n hC.1 hC.2.1 dX4_tell_62 rfl (lv_at hl 0 rfl) ?_
            refine l_begAt hC hK hX (i := (x_ends S) r0) (by omega) dX4_tell_63 (v := (x_begAt S) ((x_ends S) r0)) rfl ?_
            refine r_ireturn hC hr hlk hX dX4_tell_64 ?_
            first | exact ⟨by rw [if_neg (by omega), if_pos (by omega)], rfl⟩ | exact ⟨by rw [if_neg (by omega), if_neg (by omega)], rfl⟩
          · skip
            refine lv_aload_n hC.1 hC.2.1 dX4_tell_49 rfl (lv_at hl 1 rfl) ?_
            refine g_search_slipsAt hC fi_X4_tell_X4 hK hX (wd9 hC 3 rfl) dX4_tell_50 ?_
            refine lv_iload_n hC.1 hC.2.1 dX4_tell_53 rfl (lv_at hl 0 rfl) ?_
            refine l_slipsAt hC hK hX (i := (x_ends S) r0) (by omega) dX4_tell_54 (v := (x_slipsAt S) ((x_ends S) r0)) rfl ?_
            refine lv_goto (tgt := 64) hC.1 hC.2.1 dX4_tell_55 (by decide) ?_
            refine r_ireturn hC hr hlk hX dX4_tell_64 ?_
            first | exact ⟨by rw [if_neg (by omega), if_pos (by omega)], rfl⟩ | exact ⟨by rw [if_neg (by omega), if_neg (by omega)], rfl⟩
        · skip
          refine lv_iload_n hC.1 hC.2.1 dX4_tell_42 rfl (lv_at hl 0 rfl) ?_
          refine r_ireturn hC hr hlk hX dX4_tell_43 ?_
          exact ⟨(if_pos (by omega)).symm, rfl⟩
    · exfalso; omega
theorem fi_X4_fewestSlips_X4 : ∀ w ∈ wsX40, w ∈ wsX4_fewestSlips := by decide +kernel
theorem hd_X4_tell : yX4_tell.cls = RX4 ∧ yX4_tell.cls ≠ "java/lang/invoke/MethodHandle" ∧ yX4_tell.cls ≠ "java/lang/invoke/VarHandle" ∧ (parseMethodDescriptor yX4_tell.desc).map (fun d => d.parameters.length) = some 2 := by decide +kernel
set_option maxHeartbeats 4000000 in
set_option maxRecDepth 100000 in
theorem c_X4_fewestSlips (l : Launch) (G : GX) (ad : Nat → Nat) (S : XS) (g : Nat → Nat) (hn0 : x_listed S ≤ 121) (he0 : ∀ r, r < x_listed S → x_ends S r ≤ 120) (hg0 : ∀ r, r < x_listed S → x_slipsAt S (x_ends S r) = nI (g r)) (hg1 : ∀ r, g r ≤ 200) : CtI l yX4_fewestSlips wsX4_fewestSlips { frames := 1, cells := 0, slots := 0, locals := 23 } G (wX G ad) (S) [.ref (ad 24)] (fun r S' => r = (if x_listed S = 0 then (-5) else nI (minG g (x_listed S))) ∧ S' = S) 0 0 := by
  refine CtI.of (cc := cX4_fewestSlips) (maxL := 4) (ret := some .int) (by decide +kernel) rfl (Nat.le_of_ble_eq_true rfl) ?_
  intro p e s m args below meth c ls A hC hr hlk hin hK hA hX hl
  have hl : lv_has ls 4 [(0, .ref (ad 24))] := hl
  have hml := minG_le hg1
  refine lv_bipush (v := (-5)) hC.1 hC.2.1 dX4_fewestSlips_0 (by decide +kernel) ?_
  refine lv_istore_n (lv' := [(1, .int ((-5))), (0, .ref (ad 24))]) hC.1 hC.2.1 dX4_fewestSlips_2 rfl hl (by decide) rfl (fun ls hl => ?_)
  refine lv_iconst (v := nI (0)) hC.1 hC.2.1 dX4_fewestSlips_3 rfl ?_
  refine lv_istore_n (lv' := [(2, .int (nI (0))), (1, .int ((-5))), (0, .ref (ad 24))]) hC.1 hC.2.1 dX4_fewestSlips_4 rfl hl (by decide) rfl (fun ls hl => ?_)
  have loop5 : ∀ (n9 : Nat) (i : Nat) (fw : Int32), (i ≤ x_listed S) → (fw = if i = 0 then (-5) else nI (minG g i)) → x_listed S - i < n9 → ∀ (H : Heap) (locs : List Loc) (ls : Array Slot), HH G A s.heap (wX G ad (S)) H locs → lv_has ls 4 [(2, .int (nI (i))), (1, .int (fw)), (0, .ref (ad 24))] → W p l e { frames := 1, cells := 0, slots := 0, locals := 23 } s m args below meth c H locs 0 0 (EndI G (wX G ad) A (fun r S' => r = (if x_listed S = 0 then (-5) else nI (minG g (x_listed S))) ∧ S' = S) below args s 0 0) (F0 m 5 ls []) := by
    intro n9
    induction n9 with
    | zero => intro i fw hi hfw hn9; exact absurd hn9 (Nat.not_lt_zero _)
    | succ n9 ih5 =>
      intro i fw hi hfw hn9 H locs ls hX hl
      have hmi := hml i
      have hgi := hg1 i
      refine lv_iload_n hC.1 hC.2.1 dX4_fewestSlips_5 rfl (lv_at hl 0 rfl) ?_
      refine lv_aload_n hC.1 hC.2.1 dX4_fewestSlips_6 rfl (lv_at hl 2 rfl) ?_
      refine g_search_listed hC fi_X4_fewestSlips_X4 hK hX (wd9 hC 1 rfl) dX4_fewestSlips_7 (v := x_listed S) rfl ?_
      refine n_icmp_ge hC (a := i) (b := x_listed S) (tgt := 39) dX4_fewestSlips_10 (by decide) (by omega) (by omega) (fun c10 => ?_) (fun c10 => ?_)
      · skip
        refine lv_iload_n hC.1 hC.2.1 dX4_fewestSlips_39 rfl (lv_at hl 1 rfl) ?_
        refine r_ireturn hC hr hlk hX dX4_fewestSlips_40 ?_
        obtain rfl : i = x_listed S := by omega
        exact ⟨hfw, rfl⟩
      · skip
        refine lv_aload_n hC.1 hC.2.1 dX4_fewestSlips_13 rfl (lv_at hl 2 rfl) ?_
        refine lv_iload_n hC.1 hC.2.1 dX4_fewestSlips_14 rfl (lv_at hl 0 rfl) ?_
        refine lv_iconst (v := nI (1)) hC.1 hC.2.1 dX4_fewestSlips_15 rfl ?_
        refine cv_I (As := [.int (nI (i)), .int (nI (1))]) (rest := []) hC hK hA hX (c_X4_tell l G ad (S) (i) (1) (by omega) (by decide) (⟨hn0, he0 _ (by omega)⟩)) (cwV 2 hC.2.2.2.2 gX4_fewestSlips_X4_tell rfl rfl rfl hd_X4_tell ⟨Nat.le_of_ble_eq_true rfl, Nat.le_of_ble_eq_true rfl⟩) (ci := 4) (q := (RX4, TX4, 8)) rfl (q0 := 24) rfl dX4_fewestSlips_16 rfl hl.1 rfl (Nat.le_of_ble_eq_true rfl) ⟨(Nat.zero_le _), (Nat.zero_le _)⟩ (fun r9 S9 H locs hp9 hX => ?_)
        obtain ⟨h9, hS9⟩ := hp9
        obtain rfl : r9 = nI (g i) := by first | exact h9 | (rw [h9]; exact (hg0 i (by omega)))
        rw [hS9] at hX
        replace hX : HH G A s.heap (wX G ad (S)) H locs := hX
        refine lv_istore_n (lv' := [(3, .int (nI (g i))), (2, .int (nI (i))), (1, .int (fw)), (0, .ref (ad 24))]) hC.1 hC.2.1 dX4_fewestSlips_19 rfl hl (by decide) rfl (fun ls hl => ?_)
        rcases Nat.eq_zero_or_pos i with h0 | h0
        · subst h0
          obtain rfl : fw = (-5) := by rw [hfw, if_pos rfl]
          refine lv_iload_n hC.1 hC.2.1 dX4_fewestSlips_20 rfl (lv_at hl 2 rfl) ?_
          refine lv_bipush (v := (-5)) hC.1 hC.2.1 dX4_fewestSlips_21 (by decide +kernel) ?_
          refine lv_icmp_eq hC.1 hC.2.1 (x := (-5)) (y := (-5)) (tgt := 31) dX4_fewestSlips_23 (by decide) (fun c23 => ?_) (fun c23 => by first | exact absurd c23 (by decide) | exact absurd (by decide) c23)
          refine lv_iload_n hC.1 hC.2.1 dX4_fewestSlips_31 rfl (lv_at hl 0 rfl) ?_
          refine lv_istore_n (lv' := [(1, .int (nI (g 0))), (3, .int (nI (g 0))), (2, .int (nI (0))), (0, .ref (ad 24))]) hC.1 hC.2.1 dX4_fewestSlips_32 rfl hl (by decide) rfl (fun ls hl => ?_)
          refine lv_iinc (v := nI (1)) (lv' := [(2, .int (nI (1))), (1, .int (nI (g 0))), (3, .int (nI (g 0))), (0, .ref (ad 24))]) hC.1 hC.2.1 dX4_fewestSlips_33 hl (k := 2) rfl (n_inc1 _) (by decide) rfl (fun ls hl => ?_)
          refine lv_goto (tgt := 5) hC.1 hC.2.1 dX4_fewestSlips_36 (by decide) ?_
          refine ih5 (0 + 1) (nI (g 0)) ?_ ?_ ?_ _ _ ls hX (lv_sub hl [0, 1, 3] rfl)
          · omega
          · first | (rw [if_neg (by omega), minG_1]) | (rw [if_neg (by omega), minG_t (by omega) (by omega)]) | (rw [if_neg (by omega), minG_f (by omega) (by omega)])
          · omega
        · skip
          obtain rfl : fw = nI (minG g i) := by rw [hfw, if_neg (by omega)]
          refine lv_iload_n hC.1 hC.2.1 dX4_fewestSlips_20 rfl (lv_at hl 2 rfl) ?_
          refine lv_bipush (v := (-5)) hC.1 hC.2.1 dX4_fewestSlips_21 (by decide +kernel) ?_
          refine lv_icmp_eq hC.1 hC.2.1 (x := nI (minG g i)) (y := (-5)) (tgt := 31) dX4_fewestSlips_23 (by decide) (fun c23 => absurd c23 (nI_ne_neg (by omega) (by decide))) (fun c23 => ?_)
          refine lv_iload_n hC.1 hC.2.1 dX4_fewestSlips_26 rfl (lv_at hl 0 rfl) ?_
          refine lv_iload_n hC.1 hC.2.1 dX4_fewestSlips_27 rfl (lv_at hl 2 rfl) ?_
          refine n_icmp_ge hC (a := g i) (b := minG g i) (tgt := 33) dX4_fewestSlips_28 (by decide) (by omega) (by omega) (fun c28 => ?_) (fun c28 => ?_)
          · skip
            refine lv_iinc (v := nI (i + 1)) (lv' := [(2, .int (nI (i + 1))), (3, .int (nI (g i))), (1, .int (nI (minG g i))), (0, .ref (ad 24))]) hC.1 hC.2.1 dX4_fewestSlips_33 hl (k := 1) rfl (n_inc1 _) (by decide) rfl (fun ls hl => ?_)
            refine lv_goto (tgt := 5) hC.1 hC.2.1 dX4_fewestSlips_36 (by decide) ?_
            refine ih5 (i + 1) (nI (minG g i)) ?_ ?_ ?_ _ _ ls hX (lv_sub hl [0, 2, 3] rfl)
            · omega
            · first | (rw [if_neg (by omega), minG_1]) | (rw [if_neg (by omega), minG_t (by omega) (by omega)]) | (rw [if_neg (by omega), minG_f (by omega) (by omega)])
            · omega
          · skip
            refine lv_iload_n hC.1 hC.2.1 dX4_fewestSlips_31 rfl (lv_at hl 0 rfl) ?_
            refine lv_istore_n (lv' := [(1, .int (nI (g i))), (3, .int (nI (g i))), (2, .int (nI (i))), (0, .ref (ad 24))]) hC.1 hC.2.1 dX4_fewestSlips_32 rfl hl (by decide) rfl (fun ls hl => ?_)
            refine lv_iinc (v := nI (i + 1)) (lv' := [(2, .int (nI (i + 1))), (1, .int (nI (g i))), (3, .int (nI (g i))), (0, .ref (ad 24))]) hC.1 hC.2.1 dX4_fewestSlips_33 hl (k := 2) rfl (n_inc1 _) (by decide) rfl (fun ls hl => ?_)
            refine lv_goto (tgt := 5) hC.1 hC.2.1 dX4_fewestSlips_36 (by decide) ?_
            refine ih5 (i + 1) (nI (g i)) ?_ ?_ ?_ _ _ ls hX (lv_sub hl [0, 1, 3] rfl)
            · omega
            · first | (rw [if_neg (by omega), minG_1]) | (rw [if_neg (by omega), minG_t (by omega) (by omega)]) | (rw [if_neg (by omega), minG_f (by omega) (by omega)])
            · omega
  refine loop5 _ (0) ((-5)) ?_ ?_ (Nat.lt_succ_self _) _ _ ls hX (lv_sub hl [0, 1, 2] rfl)
  · omega
  · rfl
theorem hd_X4_fewestSlips : yX4_fewestSlips.cls = RX4 ∧ yX4_fewestSlips.cls ≠ "java/lang/invoke/MethodHandle" ∧ yX4_fewestSlips.cls ≠ "java/lang/invoke/VarHandle" ∧ (parseMethodDescriptor yX4_fewestSlips.desc).map (fun d => d.parameters.length) = some 0 := by decide +kernel
theorem fi_X4_firstWithFewest_X4 : ∀ w ∈ wsX40, w ∈ wsX4_firstWithFewest := by decide +kernel
set_option maxHeartbeats 4000000 in
set_option maxRecDepth 100000 in
theorem c_X4_firstWithFewest (l : Launch) (G : GX) (ad : Nat → Nat) (S : XS) (g : Nat → Nat) (hn0 : x_listed S ≤ 121) (he0 : ∀ r, r < x_listed S → x_ends S r ≤ 120) (hg0 : ∀ r, r < x_listed S → x_slipsAt S (x_ends S r) = nI (g r)) (hg1 : ∀ r, g r ≤ 200) : CtI l yX4_firstWithFewest wsX4_firstWithFewest { frames := 2, cells := 0, slots := 0, locals := 46 } G (wX G ad) (S) [.ref (ad 24)] (fun r S' => r = (if x_listed S = 0 then (-5) else nI (x_ends S (argG g (x_listed S)))) ∧ S' = S) 0 0 := by
  refine CtI.of (cc := cX4_firstWithFewest) (maxL := 3) (ret := some .int) (by decide +kernel) rfl (Nat.le_of_ble_eq_true rfl) ?_
  intro p e s m args below meth c ls A hC hr hlk hin hK hA hX hl
  have hl : lv_has ls 3 [(0, .ref (ad 24))] := hl
  have hml := minG_le hg1
  refine lv_aload_n hC.1 hC.2.1 dX4_firstWithFewest_0 rfl (lv_at hl 0 rfl) ?_
  refine cv_I (As := []) (rest := []) hC hK hA hX (c_X4_fewestSlips l G ad (S) g hn0 he0 hg0 hg1) (cwV 0 hC.2.2.2.2 gX4_firstWithFewest_X4_fewestSlips rfl rfl rfl hd_X4_fewestSlips ⟨Nat.le_of_ble_eq_true rfl, Nat.le_of_ble_eq_true rfl⟩) (ci := 4) (q := (RX4, TX4, 8)) rfl (q0 := 24) rfl dX4_firstWithFewest_1 rfl hl.1 rfl (Nat.le_of_ble_eq_true rfl) ⟨(Nat.zero_le _), (Nat.zero_le _)⟩ (fun r9 S9 H locs hp9 hX => ?_)
  obtain ⟨rfl, hS9⟩ := hp9
  rw [hS9] at hX
  replace hX : HH G A s.heap (wX G ad (S)) H locs := hX
  refine lv_istore_n (lv' := [(1, .int (if (x_listed S) = 0 then (-5) else nI (minG g (x_listed S)))), (0, .ref (ad 24))]) hC.1 hC.2.1 dX4_firstWithFewest_4 rfl hl (by decide) rfl (fun ls hl => ?_)
  refine lv_iconst (v := nI (0)) hC.1 hC.2.1 dX4_firstWithFewest_5 rfl ?_
  refine lv_istore_n (lv' := [(2, .int (nI (0))), (1, .int (if (x_listed S) = 0 then (-5) else nI (minG g (x_listed S)))), (0, .ref (ad 24))]) hC.1 hC.2.1 dX4_firstWithFewest_6 rfl hl (by decide) rfl (fun ls hl => ?_)
  have loop7 : ∀ (n9 : Nat) (i : Nat), (i ≤ x_listed S) → (i ≤ argG g (x_listed S)) → x_listed S - i < n9 → ∀ (H : Heap) (locs : List Loc) (ls : Array Slot), HH G A s.heap (wX G ad (S)) H locs → lv_has ls 3 [(2, .int (nI (i))), (1, .int (if (x_listed S) = 0 then (-5) else nI (minG g (x_listed S)))), (0, .ref (ad 24))] → W p l e { frames := 2, cells := 0, slots := 0, locals := 46 } s m args below meth c H locs 0 0 (EndI G (wX G ad) A (fun r S' => r = (if x_listed S = 0 then (-5) else nI (x_ends S (argG g (x_listed S)))) ∧ S' = S) below args s 0 0) (F0 m 7 ls []) := by
    intro n9
    induction n9 with
    | zero => intro i hi hj hn9; exact absurd hn9 (Nat.not_lt_zero _)
    | succ n9 ih7 =>
      intro i hi hj hn9 H locs ls hX hl
      have hgi := hg1 i
      have hmi := hml (x_listed S)
      refine lv_iload_n hC.1 hC.2.1 dX4_firstWithFewest_7 rfl (lv_at hl 0 rfl) ?_
      refine lv_aload_n hC.1 hC.2.1 dX4_firstWithFewest_8 rfl (lv_at hl 2 rfl) ?_
      refine g_search_listed hC fi_X4_firstWithFewest_X4 hK hX (wd9 hC 1 rfl) dX4_firstWithFewest_9 (v := x_listed S) rfl ?_
      refine n_icmp_ge hC (a := i) (b := x_listed S) (tgt := 38) dX4_firstWithFewest_12 (by decide) (by omega) (by omega) (fun c12 => ?_) (fun c12 => ?_)
      · skip
        refine lv_bipush (v := (-5)) hC.1 hC.2.1 dX4_firstWithFewest_38 (by decide +kernel) ?_
        refine r_ireturn hC hr hlk hX dX4_firstWithFewest_40 ?_
        exact ⟨by
          rcases Nat.eq_zero_or_pos (x_listed S) with h | h
          · rw [if_pos h]
          · have := argG_lt g (x_listed S) h; omega, rfl⟩
      · skip
        refine lv_aload_n hC.1 hC.2.1 dX4_firstWithFewest_15 rfl (lv_at hl 2 rfl) ?_
        refine lv_iload_n hC.1 hC.2.1 dX4_firstWithFewest_16 rfl (lv_at hl 0 rfl) ?_
        refine lv_iconst (v := nI (1)) hC.1 hC.2.1 dX4_firstWithFewest_17 rfl ?_
        refine cv_I (As := [.int (nI (i)), .int (nI (1))]) (rest := []) hC hK hA hX (c_X4_tell l G ad (S) (i) (1) (by omega) (by decide) (⟨hn0, he0 _ (by omega)⟩)) (cwV 2 hC.2.2.2.2 gX4_firstWithFewest_X4_tell rfl rfl rfl hd_X4_tell ⟨Nat.le_of_ble_eq_true rfl, Nat.le_of_ble_eq_true rfl⟩) (ci := 4) (q := (RX4, TX4, 8)) rfl (q0 := 24) rfl dX4_firstWithFewest_18 rfl hl.1 rfl (Nat.le_of_ble_eq_true rfl) ⟨(Nat.zero_le _), (Nat.zero_le _)⟩ (fun r9 S9 H locs hp9 hX => ?_)
        obtain ⟨h9, hS9⟩ := hp9
        obtain rfl : r9 = nI (g i) := by first | exact h9 | (rw [h9]; exact (hg0 i (by omega)))
        rw [hS9] at hX
        replace hX : HH G A s.heap (wX G ad (S)) H locs := hX
        refine lv_iload_n hC.1 hC.2.1 dX4_firstWithFewest_21 rfl (lv_at hl 1 rfl) ?_
        refine lv_icmp_ne hC.1 hC.2.1 (x := nI (g i)) (y := if (x_listed S) = 0 then (-5) else nI (minG g (x_listed S))) (tgt := 32) dX4_firstWithFewest_22 (by decide) (fun c22 => ?_) (fun c22 => ?_)
        · skip
          refine lv_iinc (v := nI (i + 1)) (lv' := [(2, .int (nI (i + 1))), (1, .int (if (x_listed S) = 0 then (-5) else nI (minG g (x_listed S)))), (0, .ref (ad 24))]) hC.1 hC.2.1 dX4_firstWithFewest_32 hl (k := 0) rfl (n_inc1 _) (by decide) rfl (fun ls hl => ?_)
          refine lv_goto (tgt := 7) hC.1 hC.2.1 dX4_firstWithFewest_35 (by decide) ?_
          refine ih7 (i + 1) ?_ ?_ ?_ _ _ ls hX (lv_sub hl [0, 1, 2] rfl)
          · omega
          · have h2 := argG_min g (x_listed S) (by omega)
            rcases Nat.eq_or_lt_of_le hj with h | h
            · exact absurd (by rw [if_neg (by omega), h, h2]) c22
            · exact h
          · omega
        · skip
          skip
          refine lv_aload_n hC.1 hC.2.1 dX4_firstWithFewest_25 rfl (lv_at hl 2 rfl) ?_
          refine lv_iload_n hC.1 hC.2.1 dX4_firstWithFewest_26 rfl (lv_at hl 0 rfl) ?_
          refine lv_iconst (v := nI (0)) hC.1 hC.2.1 dX4_firstWithFewest_27 rfl ?_
          refine cv_I (As := [.int (nI (i)), .int (nI (0))]) (rest := []) hC hK hA hX (c_X4_tell l G ad (S) (i) (0) (by omega) (by decide) (⟨hn0, he0 _ (by omega)⟩)) (cwV 2 hC.2.2.2.2 gX4_firstWithFewest_X4_tell rfl rfl rfl hd_X4_tell ⟨Nat.le_of_ble_eq_true rfl, Nat.le_of_ble_eq_true rfl⟩) (ci := 4) (q := (RX4, TX4, 8)) rfl (q0 := 24) rfl dX4_firstWithFewest_28 rfl hl.1 rfl (Nat.le_of_ble_eq_true rfl) ⟨(Nat.zero_le _), (Nat.zero_le _)⟩ (fun r9 S9 H locs hp9 hX => ?_)
          obtain ⟨h9, hS9⟩ := hp9
          obtain rfl : r9 = nI ((x_ends S) (i)) := by first | exact h9 | (rw [h9]; exact rfl)
          rw [hS9] at hX
          replace hX : HH G A s.heap (wX G ad (S)) H locs := hX
          refine r_ireturn hC hr hlk hX dX4_firstWithFewest_31 ?_
          rw [if_neg (by omega)] at c22
          have h3 := (nI_eq (by omega) (by omega)).mp c22
          rcases Nat.eq_or_lt_of_le hj with h | h
          · exact ⟨by rw [if_neg (by omega), ← h], rfl⟩
          · exact absurd h3 (argG_first g _ (by omega) i h)
  refine loop7 _ (0) ?_ ?_ (Nat.lt_succ_self _) _ _ ls hX (lv_sub hl [0, 1, 2] rfl)
  · omega
  · omega
theorem fi_X4_clearMarks_X4 : ∀ w ∈ wsX40, w ∈ wsX4_clearMarks := by decide +kernel
set_option maxHeartbeats 4000000 in
set_option maxRecDepth 100000 in
theorem c_X4_clearMarks (l : Launch) (G : GX) (ad : Nat → Nat) (S : XS)  : CtV l yX4_clearMarks wsX4_clearMarks { frames := 0, cells := 0, slots := 0, locals := 0 } G (wX G ad) (S) [.ref (ad 24)] (fun S' => ∃ f, S' = u_marked S f ∧ ∀ e, e ≤ 120 → f e = false) 0 0 := by
  refine CtV.of (cc := cX4_clearMarks) (maxL := 2) (ret := none) (by decide +kernel) rfl (Nat.le_of_ble_eq_true rfl) ?_
  intro p e s m args below meth c ls A hC hr hlk hin hK hA hX hl
  have hl : lv_has ls 2 [(0, .ref (ad 24))] := hl
  refine lv_iconst (v := nI (0)) hC.1 hC.2.1 dX4_clearMarks_0 rfl ?_
  refine lv_istore_n (lv' := [(1, .int (nI (0))), (0, .ref (ad 24))]) hC.1 hC.2.1 dX4_clearMarks_1 rfl hl (by decide) rfl (fun ls hl => ?_)
  have loop2 : ∀ (n9 : Nat) (i : Nat) (f : Nat → Bool), (i ≤ 121) → (∀ e, e < i → f e = false) → 121 - i < n9 → ∀ (H : Heap) (locs : List Loc) (ls : Array Slot), HH G A s.heap (wX G ad (u_marked (S) (f))) H locs → lv_has ls 2 [(1, .int (nI (i))), (0, .ref (ad 24))] → W p l e { frames := 0, cells := 0, slots := 0, locals := 0 } s m args below meth c H locs 0 0 (EndV G (wX G ad) A (fun S' => ∃ f, S' = u_marked S f ∧ ∀ e, e ≤ 120 → f e = false) below args s 0 0) (F0 m 2 ls []) := by
    intro n9
    induction n9 with
    | zero => intro i f hi hf hn9; exact absurd hn9 (Nat.not_lt_zero _)
    | succ n9 ih2 =>
      intro i f hi hf hn9 H locs ls hX hl
      refine lv_iload_n hC.1 hC.2.1 dX4_clearMarks_2 rfl (lv_at hl 0 rfl) ?_
      refine lv_bipush (v := nI (120)) hC.1 hC.2.1 dX4_clearMarks_3 (by decide +kernel) ?_
      refine n_icmp_gt hC (a := i) (b := 120) (tgt := 21) dX4_clearMarks_5 (by decide) (by omega) (by decide) (fun c5 => ?_) (fun c5 => ?_)
      · skip
        refine r_return hC hr hlk hX dX4_clearMarks_21 ?_
        exact ⟨f, rfl, fun e he => hf e (by omega)⟩
      · skip
        refine lv_aload_n hC.1 hC.2.1 dX4_clearMarks_8 rfl (lv_at hl 1 rfl) ?_
        refine g_search_marked hC fi_X4_clearMarks_X4 hK hX (wd9 hC 1 rfl) dX4_clearMarks_9 ?_
        refine lv_iload_n hC.1 hC.2.1 dX4_clearMarks_12 rfl (lv_at hl 0 rfl) ?_
        refine lv_iconst (v := nI (0)) hC.1 hC.2.1 dX4_clearMarks_13 rfl ?_
        refine s_marked hC hK hX (i := i) (v := false) (by omega) dX4_clearMarks_14 (fun H locs hX => ?_)
        replace hX : HH G A s.heap (wX G ad (u_marked (S) (va_up (f) (i) (false)))) H locs := hX
        refine lv_iinc (v := nI (i + 1)) (lv' := [(1, .int (nI (i + 1))), (0, .ref (ad 24))]) hC.1 hC.2.1 dX4_clearMarks_15 hl (k := 0) rfl (n_inc1 _) (by decide) rfl (fun ls hl => ?_)
        refine lv_goto (tgt := 2) hC.1 hC.2.1 dX4_clearMarks_18 (by decide) ?_
        refine ih2 (i + 1) (va_up (f) (i) (false)) ?_ ?_ ?_ _ _ ls hX (lv_sub hl [0, 1] rfl)
        · omega
        · exact fun e he => by
            rcases Nat.lt_succ_iff_lt_or_eq.mp he with h | h
            · rw [va_up_ne _ _ (Nat.ne_of_lt h)]; exact hf e h
            · subst h; exact va_up_self _ _ _
        · omega
  refine loop2 _ (0) (x_marked S) ?_ ?_ (Nat.lt_succ_self _) _ _ ls hX (lv_sub hl [0, 1] rfl)
  · omega
  · exact fun e he => absurd he (Nat.not_lt_zero _)
theorem fi_X4_markEnds_X4 : ∀ w ∈ wsX40, w ∈ wsX4_markEnds := by decide +kernel
set_option maxHeartbeats 4000000 in
set_option maxRecDepth 100000 in
theorem c_X4_markEnds (l : Launch) (G : GX) (ad : Nat → Nat) (S : XS) (hn0 : x_listed S ≤ 121) (he0 : ∀ r, r < x_listed S → x_ends S r ≤ 120) : CtV l yX4_markEnds wsX4_markEnds { frames := 1, cells := 0, slots := 0, locals := 23 } G (wX G ad) (S) [.ref (ad 24)] (fun S' => ∃ f, S' = u_marked S f ∧ ∀ e, e ≤ 120 → f e = (x_marked S e || decide (∃ r, r < x_listed S ∧ x_ends S r = e))) 0 0 := by
  refine CtV.of (cc := cX4_markEnds) (maxL := 3) (ret := none) (by decide +kernel) rfl (Nat.le_of_ble_eq_true rfl) ?_
  intro p e s m args below meth c ls A hC hr hlk hin hK hA hX hl
  have hl : lv_has ls 3 [(0, .ref (ad 24))] := hl
  refine lv_iconst (v := nI (0)) hC.1 hC.2.1 dX4_markEnds_0 rfl ?_
  refine lv_istore_n (lv' := [(1, .int (nI (0))), (0, .ref (ad 24))]) hC.1 hC.2.1 dX4_markEnds_1 rfl hl (by decide) rfl (fun ls hl => ?_)
  have loop2 : ∀ (n9 : Nat) (i : Nat) (f : Nat → Bool), (i ≤ x_listed S) → (∀ e, e ≤ 120 → f e = (x_marked S e || decide (∃ r, r < i ∧ x_ends S r = e))) → x_listed S - i < n9 → ∀ (H : Heap) (locs : List Loc) (ls : Array Slot), HH G A s.heap (wX G ad (u_marked (S) (f))) H locs → lv_has ls 3 [(1, .int (nI (i))), (0, .ref (ad 24))] → W p l e { frames := 1, cells := 0, slots := 0, locals := 23 } s m args below meth c H locs 0 0 (EndV G (wX G ad) A (fun S' => ∃ f, S' = u_marked S f ∧ ∀ e, e ≤ 120 → f e = (x_marked S e || decide (∃ r, r < x_listed S ∧ x_ends S r = e))) below args s 0 0) (F0 m 2 ls []) := by
    intro n9
    induction n9 with
    | zero => intro i f hi hf hn9; exact absurd hn9 (Nat.not_lt_zero _)
    | succ n9 ih2 =>
      intro i f hi hf hn9 H locs ls hX hl
      refine lv_iload_n hC.1 hC.2.1 dX4_markEnds_2 rfl (lv_at hl 0 rfl) ?_
      refine lv_aload_n hC.1 hC.2.1 dX4_markEnds_3 rfl (lv_at hl 1 rfl) ?_
      refine g_search_listed hC fi_X4_markEnds_X4 hK hX (wd9 hC 1 rfl) dX4_markEnds_4 (v := x_listed S) rfl ?_
      refine n_icmp_ge hC (a := i) (b := x_listed S) (tgt := 40) dX4_markEnds_7 (by decide) (by omega) (by omega) (fun c7 => ?_) (fun c7 => ?_)
      · skip
        refine r_return hC hr hlk hX dX4_markEnds_40 ?_
        obtain rfl : i = x_listed S := by omega
        exact ⟨f, rfl, hf⟩
      · skip
        refine lv_aload_n hC.1 hC.2.1 dX4_markEnds_10 rfl (lv_at hl 1 rfl) ?_
        refine lv_iload_n hC.1 hC.2.1 dX4_markEnds_11 rfl (lv_at hl 0 rfl) ?_
        refine lv_iconst (v := nI (0)) hC.1 hC.2.1 dX4_markEnds_12 rfl ?_
        refine cv_I (As := [.int (nI (i)), .int (nI (0))]) (rest := []) hC hK hA hX (c_X4_tell l G ad (u_marked (S) (f)) (i) (0) (by omega) (by decide) (⟨hn0, he0 _ (by omega)⟩)) (cwV 2 hC.2.2.2.2 gX4_markEnds_X4_tell rfl rfl rfl hd_X4_tell ⟨Nat.le_of_ble_eq_true rfl, Nat.le_of_ble_eq_true rfl⟩) (ci := 4) (q := (RX4, TX4, 8)) rfl (q0 := 24) rfl dX4_markEnds_13 rfl hl.1 rfl (Nat.le_of_ble_eq_true rfl) ⟨(Nat.zero_le _), (Nat.zero_le _)⟩ (fun r9 S9 H locs hp9 hX => ?_)
        obtain ⟨h9, hS9⟩ := hp9
        obtain rfl : r9 = nI ((x_ends S) (i)) := by first | exact h9 | (rw [h9]; exact rfl)
        rw [hS9] at hX
        replace hX : HH G A s.heap (wX G ad (u_marked (S) (f))) H locs := hX
        refine lv_istore_n (lv' := [(2, .int (nI ((x_ends S) (i)))), (1, .int (nI (i))), (0, .ref (ad 24))]) hC.1 hC.2.1 dX4_markEnds_16 rfl hl (by decide) rfl (fun ls hl => ?_)
        have hei := he0 i (by omega)
        refine lv_iload_n hC.1 hC.2.1 dX4_markEnds_17 rfl (lv_at hl 0 rfl) ?_
        refine n_if_lt hC (a := (x_ends S) (i)) (tgt := 34) dX4_markEnds_18 (by decide) (by omega) ?_
        refine lv_iload_n hC.1 hC.2.1 dX4_markEnds_21 rfl (lv_at hl 0 rfl) ?_
        refine lv_bipush (v := nI (120)) hC.1 hC.2.1 dX4_markEnds_22 (by decide +kernel) ?_
        refine n_icmp_gt hC (a := (x_ends S) (i)) (b := 120) (tgt := 34) dX4_markEnds_24 (by decide) (by omega) (by decide) (fun c24 => ?_) (fun c24 => ?_)
        · exfalso; omega
        · skip
          refine lv_aload_n hC.1 hC.2.1 dX4_markEnds_27 rfl (lv_at hl 2 rfl) ?_
          refine g_search_marked hC fi_X4_markEnds_X4 hK hX (wd9 hC 2 rfl) dX4_markEnds_28 ?_
          refine lv_iload_n hC.1 hC.2.1 dX4_markEnds_31 rfl (lv_at hl 0 rfl) ?_
          refine lv_iconst (v := nI (1)) hC.1 hC.2.1 dX4_markEnds_32 rfl ?_
          refine s_marked hC hK hX (i := (x_ends S) (i)) (v := true) (by omega) dX4_markEnds_33 (fun H locs hX => ?_)
          replace hX : HH G A s.heap (wX G ad (u_marked (S) (va_up (f) ((x_ends S) (i)) (true)))) H locs := hX
          refine lv_iinc (v := nI (i + 1)) (lv' := [(1, .int (nI (i + 1))), (2, .int (nI ((x_ends S) (i)))), (0, .ref (ad 24))]) hC.1 hC.2.1 dX4_markEnds_34 hl (k := 1) rfl (n_inc1 _) (by decide) rfl (fun ls hl => ?_)
          refine lv_goto (tgt := 2) hC.1 hC.2.1 dX4_markEnds_37 (by decide) ?_
          refine ih2 (i + 1) (va_up (f) ((x_ends S) (i)) (true)) ?_ ?_ ?_ _ _ ls hX (lv_sub hl [0, 2] rfl)
          · omega
          · exact fun e he => mark_s hf he
          · omega
  refine loop2 _ (0) (x_marked S) ?_ ?_ (Nat.lt_succ_self _) _ _ ls hX (lv_sub hl [0, 1] rfl)
  · omega
  · exact fun e he => by simp
theorem fi_X4_countMarks_X4 : ∀ w ∈ wsX40, w ∈ wsX4_countMarks := by decide +kernel
set_option maxHeartbeats 4000000 in
set_option maxRecDepth 100000 in
theorem c_X4_countMarks (l : Launch) (G : GX) (ad : Nat → Nat) (S : XS)  : CtI l yX4_countMarks wsX4_countMarks { frames := 0, cells := 0, slots := 0, locals := 0 } G (wX G ad) (S) [.ref (ad 24)] (fun r S' => r = nI (cS (x_marked S) 121) ∧ S' = S) 0 0 := by
  refine CtI.of (cc := cX4_countMarks) (maxL := 3) (ret := some .int) (by decide +kernel) rfl (Nat.le_of_ble_eq_true rfl) ?_
  intro p e s m args below meth c ls A hC hr hlk hin hK hA hX hl
  have hl : lv_has ls 3 [(0, .ref (ad 24))] := hl
  have hcl := cS_le (x_marked S)
  refine lv_iconst (v := nI (0)) hC.1 hC.2.1 dX4_countMarks_0 rfl ?_
  refine lv_istore_n (lv' := [(1, .int (nI (0))), (0, .ref (ad 24))]) hC.1 hC.2.1 dX4_countMarks_1 rfl hl (by decide) rfl (fun ls hl => ?_)
  refine lv_iconst (v := nI (0)) hC.1 hC.2.1 dX4_countMarks_2 rfl ?_
  refine lv_istore_n (lv' := [(2, .int (nI (0))), (1, .int (nI (0))), (0, .ref (ad 24))]) hC.1 hC.2.1 dX4_countMarks_3 rfl hl (by decide) rfl (fun ls hl => ?_)
  have loop4 : ∀ (n9 : Nat) (i : Nat), (i ≤ 121) → 121 - i < n9 → ∀ (H : Heap) (locs : List Loc) (ls : Array Slot), HH G A s.heap (wX G ad (S)) H locs → lv_has ls 3 [(2, .int (nI (i))), (1, .int (nI (cS (x_marked S) i))), (0, .ref (ad 24))] → W p l e { frames := 0, cells := 0, slots := 0, locals := 0 } s m args below meth c H locs 0 0 (EndI G (wX G ad) A (fun r S' => r = nI (cS (x_marked S) 121) ∧ S' = S) below args s 0 0) (F0 m 4 ls []) := by
    intro n9
    induction n9 with
    | zero => intro i hi hn9; exact absurd hn9 (Nat.not_lt_zero _)
    | succ n9 ih4 =>
      intro i hi hn9 H locs ls hX hl
      refine lv_iload_n hC.1 hC.2.1 dX4_countMarks_4 rfl (lv_at hl 0 rfl) ?_
      refine lv_bipush (v := nI (120)) hC.1 hC.2.1 dX4_countMarks_5 (by decide +kernel) ?_
      refine n_icmp_gt hC (a := i) (b := 120) (tgt := 28) dX4_countMarks_7 (by decide) (by omega) (by decide) (fun c7 => ?_) (fun c7 => ?_)
      · skip
        refine lv_iload_n hC.1 hC.2.1 dX4_countMarks_28 rfl (lv_at hl 1 rfl) ?_
        refine r_ireturn hC hr hlk hX dX4_countMarks_29 ?_
        obtain rfl : i = 121 := by omega
        exact ⟨rfl, rfl⟩
      · skip
        refine lv_aload_n hC.1 hC.2.1 dX4_countMarks_10 rfl (lv_at hl 2 rfl) ?_
        refine g_search_marked hC fi_X4_countMarks_X4 hK hX (wd9 hC 1 rfl) dX4_countMarks_11 ?_
        refine lv_iload_n hC.1 hC.2.1 dX4_countMarks_14 rfl (lv_at hl 0 rfl) ?_
        refine l_marked hC hK hX (i := i) (by omega) dX4_countMarks_15 (v := (x_marked S) i) rfl ?_
        refine b_if_eq hC (b := (x_marked S) i) (tgt := 22) dX4_countMarks_16 (by decide) (fun c16 => ?_) (fun c16 => ?_)
        · skip
          refine lv_iinc (v := nI (i + 1)) (lv' := [(2, .int (nI (i + 1))), (1, .int (nI (cS (x_marked S) i))), (0, .ref (ad 24))]) hC.1 hC.2.1 dX4_countMarks_22 hl (k := 0) rfl (n_inc1 _) (by decide) rfl (fun ls hl => ?_)
          refine lv_goto (tgt := 4) hC.1 hC.2.1 dX4_countMarks_25 (by decide) ?_
          refine ih4 (i + 1) ?_ ?_ _ _ ls hX (by first | (rw [cS_t (by assumption)]; exact lv_sub hl [0, 1, 2] rfl) | (rw [cS_f (by assumption)]; exact lv_sub hl [0, 1, 2] rfl))
          · omega
          · omega
        · skip
          refine lv_iinc (v := nI ((cS (x_marked S) i) + 1)) (lv' := [(1, .int (nI ((cS (x_marked S) i) + 1))), (2, .int (nI (i))), (0, .ref (ad 24))]) hC.1 hC.2.1 dX4_countMarks_19 hl (k := 1) rfl (n_inc1 _) (by decide) rfl (fun ls hl => ?_)
          refine lv_iinc (v := nI (i + 1)) (lv' := [(2, .int (nI (i + 1))), (1, .int (nI ((cS (x_marked S) i) + 1))), (0, .ref (ad 24))]) hC.1 hC.2.1 dX4_countMarks_22 hl (k := 1) rfl (n_inc1 _) (by decide) rfl (fun ls hl => ?_)
          refine lv_goto (tgt := 4) hC.1 hC.2.1 dX4_countMarks_25 (by decide) ?_
          refine ih4 (i + 1) ?_ ?_ _ _ ls hX (by first | (rw [cS_t (by assumption)]; exact lv_sub hl [0, 1, 2] rfl) | (rw [cS_f (by assumption)]; exact lv_sub hl [0, 1, 2] rfl))
          · omega
          · omega
  refine loop4 _ (0) ?_ (Nat.lt_succ_self _) _ _ ls hX (lv_sub hl [0, 1, 2] rfl)
  · omega
set_option maxHeartbeats 4000000 in
set_option maxRecDepth 100000 in
theorem c_X6_firstOfFewest (l : Launch) (G : GX) (a0 b0 : Nat) (ha0 : a0 < 2 ^ 31) (hb0 : b0 < 2 ^ 31) : CtI l yX6_firstOfFewest wsX6_firstOfFewest { frames := 0, cells := 0, slots := 0, locals := 0 } G wP (()) [.int (nI (a0)), .int (nI (b0))] (fun r _ => r = nI (fof a0 b0)) 0 0 := by
  refine CtI.of (cc := cX6_firstOfFewest) (maxL := 2) (ret := some .int) (by decide +kernel) rfl (Nat.le_of_ble_eq_true rfl) ?_
  intro p e s m args below meth c ls A hC hr hlk hin hK hA hX hl
  have hl : lv_has ls 2 [(0, .int (nI (a0))), (1, .int (nI (b0)))] := hl
  refine lv_iload_n hC.1 hC.2.1 dX6_firstOfFewest_0 rfl (lv_at hl 1 rfl) ?_
  refine lv_bipush (v := nI (21)) hC.1 hC.2.1 dX6_firstOfFewest_1 (by decide +kernel) ?_
  refine lv_ishr hC.1 hC.2.1 dX6_firstOfFewest_3 ?_
  refine n_top (y := nI (b0 / 2097152)) (pk_shrN hb0 _ 21 (by decide +kernel)) ?_
  refine lv_iload_n hC.1 hC.2.1 dX6_firstOfFewest_4 rfl (lv_at hl 0 rfl) ?_
  refine lv_bipush (v := nI (21)) hC.1 hC.2.1 dX6_firstOfFewest_5 (by decide +kernel) ?_
  refine lv_ishr hC.1 hC.2.1 dX6_firstOfFewest_7 ?_
  refine n_top (y := nI (a0 / 2097152)) (pk_shrN ha0 _ 21 (by decide +kernel)) ?_
  refine n_icmp_ge hC (a := b0 / 2097152) (b := a0 / 2097152) (tgt := 15) dX6_firstOfFewest_8 (by decide) (by omega) (by omega) (fun c8 => ?_) (fun c8 => ?_)
  · skip
    refine lv_iload_n hC.1 hC.2.1 dX6_firstOfFewest_15 rfl (lv_at hl 0 rfl) ?_
    refine r_ireturn hC hr hlk hX dX6_firstOfFewest_16 ?_
    unfold fof
    first | rw [if_pos (by omega)] | rw [if_neg (by omega)]
  · skip
    refine lv_iload_n hC.1 hC.2.1 dX6_firstOfFewest_11 rfl (lv_at hl 1 rfl) ?_
    refine lv_goto (tgt := 16) hC.1 hC.2.1 dX6_firstOfFewest_12 (by decide) ?_
    refine r_ireturn hC hr hlk hX dX6_firstOfFewest_16 ?_
    unfold fof
    first | rw [if_pos (by omega)] | rw [if_neg (by omega)]
theorem fi_X6_stepWays_X6 : ∀ w ∈ wsX60, w ∈ wsX6_stepWays := by decide +kernel
theorem fi_X6_stepWays_X2 : ∀ w ∈ wsX20, w ∈ wsX6_stepWays := by decide +kernel
theorem hd_X6_firstOfFewest_s : yX6_firstOfFewest.cls ≠ "java/lang/invoke/MethodHandle" ∧ yX6_firstOfFewest.cls ≠ "java/lang/invoke/VarHandle" ∧ (parseMethodDescriptor yX6_firstOfFewest.desc).map (fun d => d.parameters.length) = some 2 := by decide +kernel
set_option maxHeartbeats 4000000 in
set_option maxRecDepth 100000 in
theorem c_X6_stepWays (l : Launch) (G : GX) (ad : Nat → Nat) (S : XS) (q0 : PatD) (jq0 : Nat) (hq_q0 : (x_pool S)[jq0]? = some q0) (hm0 : pd_cnt q0 ≤ 60) (hT0 : okT (st_text (x_now S)) (st_len (x_now S))) (hn0 : st_len (x_now S) ≤ 120) (fr0 e0 : Nat) (he0 : fr0 + e0 < st_len (x_now S)) (hc0 : ∀ i, i ≤ pd_cnt q0 → x_ways S i = wcol (tkX (pd_ptf q0) (st_text (x_now S))) fr0 e0 i) : CtV l yX6_stepWays wsX6_stepWays { frames := 1, cells := 0, slots := 0, locals := 22 } G (wX G ad) (S) [.ref (ad 32), .ref (ad 0), .ref (pd_a q0), .int (nI (fr0 + e0 + 1))] (fun S' => ∃ f, S' = u_ways S f ∧ ∀ i, i ≤ pd_cnt q0 → f i = wcol (tkX (pd_ptf q0) (st_text (x_now S))) fr0 (e0 + 1) i) 0 0 := by
  refine CtV.of (cc := cX6_stepWays) (maxL := 12) (ret := none) (by decide +kernel) rfl (Nat.le_of_ble_eq_true rfl) ?_
  intro p e s m args below meth c ls A hC hr hlk hin hK hA hX hl
  have hl : lv_has ls 12 [(0, .ref (ad 32)), (1, .ref (ad 0)), (2, .ref (pd_a q0)), (3, .int (nI (fr0 + e0 + 1)))] := hl
  have hT1 := hT0.1
  have hT2 := hT0.2 (fr0 + e0) he0
  have hwb : ∀ e i, e ≤ 120 → i ≤ 60 → wcol (tkX (pd_ptf q0) (st_text (x_now S))) fr0 e i < 300000000 := fun e i h1 h2 => isWay_lt (wcol_way (tkX (pd_ptf q0) (st_text (x_now S))) fr0 e i h1 h2) (by omega)
  refine lv_aload_n hC.1 hC.2.1 dX6_stepWays_0 rfl (lv_at hl 2 rfl) ?_
  refine lv_aload_n hC.1 hC.2.1 dX6_stepWays_1 rfl (lv_at hl 1 rfl) ?_
  refine lv_iload_n hC.1 hC.2.1 dX6_stepWays_2 rfl (lv_at hl 3 rfl) ?_
  refine lv_iconst (v := nI (1)) hC.1 hC.2.1 dX6_stepWays_3 rfl ?_
  refine n_sub hC (a := fr0 + e0 + 1) (b := 1) dX6_stepWays_4 (by omega) ?_
  refine n_top (y := nI (fr0 + e0)) rfl ?_
  refine cv_I (As := [.int (nI (fr0 + e0))]) (rest := [.ref (pd_a q0)]) hC hK hA hX (c_X5_signAt l G ad (S) (fr0 + e0) (by omega) (hT1 _)) (cwV 1 hC.2.2.2.2 gX6_stepWays_X5_signAt rfl rfl rfl hd_X5_signAt ⟨Nat.le_of_ble_eq_true rfl, Nat.le_of_ble_eq_true rfl⟩) (ci := 5) (q := (RX5, TX5, 5)) rfl (q0 := 0) rfl dX6_stepWays_5 rfl hl.1 rfl (Nat.le_of_ble_eq_true rfl) ⟨(Nat.zero_le _), (Nat.zero_le _)⟩ (fun r9 S9 H locs hp9 hX => ?_)
  obtain ⟨rfl, hS9⟩ := hp9
  rw [hS9] at hX
  replace hX : HH G A s.heap (wX G ad (S)) H locs := hX
  refine cv_L (As := [.int (nI ((st_text (x_now S)) (fr0 + e0)))]) (rest := []) hC hK hA hX (c_X2_placesThatTake l G ad (S) q0 _ hq_q0 ((st_text (x_now S)) (fr0 + e0)) hT2) (cwV 1 hC.2.2.2.2 gX6_stepWays_X2_placesThatTake rfl rfl rfl hd_X2_placesThatTake ⟨Nat.le_of_ble_eq_true rfl, Nat.le_of_ble_eq_true rfl⟩) (ci := 2) (q := (RX2, TX2, 4)) rfl (wX_pa hq_q0) dX6_stepWays_8 rfl hl.1 rfl (Nat.le_of_ble_eq_true rfl) ⟨(Nat.zero_le _), (Nat.zero_le _)⟩ (fun r9 S9 H locs hp9 hX => ?_)
  obtain ⟨rfl, hS9⟩ := hp9
  rw [hS9] at hX
  replace hX : HH G A s.heap (wX G ad (S)) H locs := hX
  refine lv_lstore (lv' := [(4, .long (pd_ptf q0 (sgc ((st_text (x_now S)) (fr0 + e0))))), (0, .ref (ad 32)), (1, .ref (ad 0)), (2, .ref (pd_a q0)), (3, .int (nI (fr0 + e0 + 1)))]) hC.1 hC.2.1 dX6_stepWays_11 hl (by decide) rfl (fun ls hl => ?_)
  refine lv_aload_n hC.1 hC.2.1 dX6_stepWays_13 rfl (lv_at hl 1 rfl) ?_
  refine g_way_ways hC fi_X6_stepWays_X6 hK hX (wd9 hC 1 rfl) dX6_stepWays_14 ?_
  refine lv_iconst (v := nI (0)) hC.1 hC.2.1 dX6_stepWays_17 rfl ?_
  refine l_ways hC hK hX (i := 0) (by decide) dX6_stepWays_18 (v := (x_ways S) 0) rfl ?_
  refine lv_istore (lv' := [(6, .int (nI ((x_ways S) 0))), (4, .long (pd_ptf q0 (sgc ((st_text (x_now S)) (fr0 + e0))))), (0, .ref (ad 32)), (1, .ref (ad 0)), (2, .ref (pd_a q0)), (3, .int (nI (fr0 + e0 + 1)))]) hC.1 hC.2.1 dX6_stepWays_19 hl (by decide) rfl (fun ls hl => ?_)
  refine lv_aload_n hC.1 hC.2.1 dX6_stepWays_21 rfl (lv_at hl 2 rfl) ?_
  refine g_way_ways hC fi_X6_stepWays_X6 hK hX (wd9 hC 1 rfl) dX6_stepWays_22 ?_
  refine lv_iconst (v := nI (0)) hC.1 hC.2.1 dX6_stepWays_25 rfl ?_
  refine lv_aload_n hC.1 hC.2.1 dX6_stepWays_26 rfl (lv_at hl 2 rfl) ?_
  refine g_way_ways hC fi_X6_stepWays_X6 hK hX (wd9 hC 1 rfl) dX6_stepWays_27 ?_
  refine lv_iconst (v := nI (0)) hC.1 hC.2.1 dX6_stepWays_30 rfl ?_
  refine l_ways hC hK hX (i := 0) (by decide) dX6_stepWays_31 (v := (x_ways S) 0) rfl ?_
  refine lv_ldc (v := (2113536 : Int32)) hC.1 hC.2.1 hC.2.2.2.1 (wd9 hC 2 rfl) dX6_stepWays_32 ?_
  refine n_top (y := nI 2113536) (by decide +kernel) ?_
  refine n_add hC (a := (x_ways S) 0) (b := 2113536) dX6_stepWays_34 ?_
  refine s_ways hC hK hX (i := 0) (v := ((x_ways S) 0) + (2113536)) (by decide) dX6_stepWays_35 (fun H locs hX => ?_)
  replace hX : HH G A s.heap (wX G ad (u_ways (S) (va_up (x_ways S) (0) (((x_ways S) 0) + (2113536))))) H locs := hX
  refine lv_iconst (v := nI (1)) hC.1 hC.2.1 dX6_stepWays_36 rfl ?_
  refine lv_istore (lv' := [(7, .int (nI (1))), (6, .int (nI ((x_ways S) 0))), (4, .long (pd_ptf q0 (sgc ((st_text (x_now S)) (fr0 + e0))))), (0, .ref (ad 32)), (1, .ref (ad 0)), (2, .ref (pd_a q0)), (3, .int (nI (fr0 + e0 + 1)))]) hC.1 hC.2.1 dX6_stepWays_37 hl (by decide) rfl (fun ls hl => ?_)
  have loop39 : ∀ (n9 : Nat) (i : Nat) (f : Nat → Nat), (i ≤ pd_cnt q0) → (∀ j, j ≤ i → f j = wcol (tkX (pd_ptf q0) (st_text (x_now S))) fr0 (e0 + 1) j) → (∀ j, i < j → f j = x_ways S j) → pd_cnt q0 - i < n9 → ∀ (H : Heap) (locs : List Loc) (ls : Array Slot), HH G A s.heap (wX G ad (u_ways (S) (f))) H locs → lv_has ls 12 [(7, .int (nI (i + 1))), (6, .int (nI (x_ways S i))), (4, .long (pd_ptf q0 (sgc ((st_text (x_now S)) (fr0 + e0))))), (0, .ref (ad 32)), (1, .ref (ad 0)), (2, .ref (pd_a q0)), (3, .int (nI (fr0 + e0 + 1)))] → W p l e { frames := 1, cells := 0, slots := 0, locals := 22 } s m args below meth c H locs 0 0 (EndV G (wX G ad) A (fun S' => ∃ f, S' = u_ways S f ∧ ∀ i, i ≤ pd_cnt q0 → f i = wcol (tkX (pd_ptf q0) (st_text (x_now S))) fr0 (e0 + 1) i) below args s 0 0) (F0 m 39 ls []) := by
    intro n9
    induction n9 with
    | zero => intro i f hi hf1 hf2 hn9; exact absurd hn9 (Nat.not_lt_zero _)
    | succ n9 ih39 =>
      intro i f hi hf1 hf2 hn9 H locs ls hX hl
      have hb1 := hwb (e0 + 1) i (by omega) (by omega)
      have hb2 := hwb e0 i (by omega) (by omega)
      have hb4 := hc0 i hi
      refine lv_iload hC.1 hC.2.1 dX6_stepWays_39 (lv_at hl 0 rfl) ?_
      refine lv_bipush (v := nI (60)) hC.1 hC.2.1 dX6_stepWays_41 (by decide +kernel) ?_
      refine n_icmp_gt hC (a := i + 1) (b := 60) (tgt := 153) dX6_stepWays_43 (by decide) (by omega) (by decide) (fun c43 => ?_) (fun c43 => ?_)
      · skip
        refine r_return hC hr hlk hX dX6_stepWays_153 ?_
        exact ⟨f, rfl, fun j hj => hf1 j (by omega)⟩
      · skip
        refine lv_iload hC.1 hC.2.1 dX6_stepWays_46 (lv_at hl 0 rfl) ?_
        refine lv_aload_n hC.1 hC.2.1 dX6_stepWays_48 rfl (lv_at hl 5 rfl) ?_
        refine gN_pat_placeCount hC fi_X6_stepWays_X2 hK hX hq_q0 (hnf hK 14 rfl) dX6_stepWays_49 (v := pd_cnt q0) rfl ?_
        refine n_icmp_gt hC (a := i + 1) (b := pd_cnt q0) (tgt := 153) dX6_stepWays_52 (by decide) (by omega) (by omega) (fun c52 => ?_) (fun c52 => ?_)
        · skip
          refine r_return hC hr hlk hX dX6_stepWays_153 ?_
          exact ⟨f, rfl, fun j hj => hf1 j (by omega)⟩
        · skip
          have hb3 := hwb e0 (i + 1) (by omega) (by omega)
          have hb5 := hc0 (i + 1) (by omega)
          have hfb : fof (x_ways S i + if (tkX (pd_ptf q0) (st_text (x_now S))) i (fr0 + e0) = true then 0 else 2097153) (x_ways S (i + 1) + 2113536) < 2 ^ 31 := fof_lt (by split <;> omega) (by omega)
          refine lv_lload hC.1 hC.2.1 dX6_stepWays_55 (lv_at hl 2 rfl) ?_
          refine lv_iload hC.1 hC.2.1 dX6_stepWays_57 (lv_at hl 0 rfl) ?_
          refine lv_iconst (v := nI (1)) hC.1 hC.2.1 dX6_stepWays_59 rfl ?_
          refine n_sub hC (a := i + 1) (b := 1) dX6_stepWays_60 (by omega) ?_
          refine n_top (y := nI (i)) rfl ?_
          refine lv_lushr hC.1 hC.2.1 dX6_stepWays_61 rfl ?_
          refine lv_lconst (v := lN 1) hC.1 hC.2.1 dX6_stepWays_62 rfl ?_
          refine lv_land hC.1 hC.2.1 dX6_stepWays_63 ?_
          refine lv_lconst (v := lN 0) hC.1 hC.2.1 dX6_stepWays_64 rfl ?_
          refine W.lcmp hC.1 hC.2.1 dX6_stepWays_65 ?_
          have join74 : ∀ (H : Heap) (locs : List Loc) (ls : Array Slot), HH G A s.heap (wX G ad (u_ways (S) (f))) H locs → lv_has ls 12 [(7, .int (nI (i + 1))), (6, .int (nI (x_ways S i))), (4, .long (pd_ptf q0 (sgc ((st_text (x_now S)) (fr0 + e0))))), (0, .ref (ad 32)), (1, .ref (ad 0)), (2, .ref (pd_a q0)), (3, .int (nI (fr0 + e0 + 1)))] → W p l e { frames := 1, cells := 0, slots := 0, locals := 22 } s m args below meth c H locs 0 0 (EndV G (wX G ad) A (fun S' => ∃ f, S' = u_ways S f ∧ ∀ i, i ≤ pd_cnt q0 → f i = wcol (tkX (pd_ptf q0) (st_text (x_now S))) fr0 (e0 + 1) i) below args s 0 0) (F0 m 74 ls [.int (bI ((tkX (pd_ptf q0) (st_text (x_now S))) i (fr0 + e0)))]) := by
            intro  H locs ls  hX hl
            refine lv_istore (lv' := [(8, .int (bI ((tkX (pd_ptf q0) (st_text (x_now S))) i (fr0 + e0)))), (7, .int (nI (i + 1))), (6, .int (nI (x_ways S i))), (4, .long (pd_ptf q0 (sgc ((st_text (x_now S)) (fr0 + e0))))), (0, .ref (ad 32)), (1, .ref (ad 0)), (2, .ref (pd_a q0)), (3, .int (nI (fr0 + e0 + 1)))]) hC.1 hC.2.1 dX6_stepWays_74 hl (by decide) rfl (fun ls hl => ?_)
            refine lv_iload hC.1 hC.2.1 dX6_stepWays_76 (lv_at hl 0 rfl) ?_
            have join91 : ∀ (H : Heap) (locs : List Loc) (ls : Array Slot), HH G A s.heap (wX G ad (u_ways (S) (f))) H locs → lv_has ls 12 [(8, .int (bI ((tkX (pd_ptf q0) (st_text (x_now S))) i (fr0 + e0)))), (7, .int (nI (i + 1))), (6, .int (nI (x_ways S i))), (4, .long (pd_ptf q0 (sgc ((st_text (x_now S)) (fr0 + e0))))), (0, .ref (ad 32)), (1, .ref (ad 0)), (2, .ref (pd_a q0)), (3, .int (nI (fr0 + e0 + 1)))] → W p l e { frames := 1, cells := 0, slots := 0, locals := 22 } s m args below meth c H locs 0 0 (EndV G (wX G ad) A (fun S' => ∃ f, S' = u_ways S f ∧ ∀ i, i ≤ pd_cnt q0 → f i = wcol (tkX (pd_ptf q0) (st_text (x_now S))) fr0 (e0 + 1) i) below args s 0 0) (F0 m 91 ls [.int (nI (x_ways S i + if (tkX (pd_ptf q0) (st_text (x_now S))) i (fr0 + e0) = true then 0 else 2097153))]) := by
              intro  H locs ls  hX hl
              refine lv_istore (lv' := [(9, .int (nI (x_ways S i + if (tkX (pd_ptf q0) (st_text (x_now S))) i (fr0 + e0) = true then 0 else 2097153))), (8, .int (bI ((tkX (pd_ptf q0) (st_text (x_now S))) i (fr0 + e0)))), (7, .int (nI (i + 1))), (6, .int (nI (x_ways S i))), (4, .long (pd_ptf q0 (sgc ((st_text (x_now S)) (fr0 + e0))))), (0, .ref (ad 32)), (1, .ref (ad 0)), (2, .ref (pd_a q0)), (3, .int (nI (fr0 + e0 + 1)))]) hC.1 hC.2.1 dX6_stepWays_91 hl (by decide) rfl (fun ls hl => ?_)
              refine lv_aload_n hC.1 hC.2.1 dX6_stepWays_93 rfl (lv_at hl 5 rfl) ?_
              refine g_way_ways hC fi_X6_stepWays_X6 hK hX (wd9 hC 1 rfl) dX6_stepWays_94 ?_
              refine lv_iload hC.1 hC.2.1 dX6_stepWays_97 (lv_at hl 2 rfl) ?_
              refine l_ways hC hK hX (i := i + 1) (by omega) dX6_stepWays_99 (v := x_ways S (i + 1)) (hf2 (i + 1) (by omega)) ?_
              refine lv_ldc (v := (2113536 : Int32)) hC.1 hC.2.1 hC.2.2.2.1 (wd9 hC 2 rfl) dX6_stepWays_100 ?_
              refine n_top (y := nI 2113536) (by decide +kernel) ?_
              refine n_add hC (a := x_ways S (i + 1)) (b := 2113536) dX6_stepWays_102 ?_
              refine lv_istore (lv' := [(10, .int (nI ((x_ways S (i + 1)) + (2113536)))), (9, .int (nI (x_ways S i + if (tkX (pd_ptf q0) (st_text (x_now S))) i (fr0 + e0) = true then 0 else 2097153))), (8, .int (bI ((tkX (pd_ptf q0) (st_text (x_now S))) i (fr0 + e0)))), (7, .int (nI (i + 1))), (6, .int (nI (x_ways S i))), (4, .long (pd_ptf q0 (sgc ((st_text (x_now S)) (fr0 + e0))))), (0, .ref (ad 32)), (1, .ref (ad 0)), (2, .ref (pd_a q0)), (3, .int (nI (fr0 + e0 + 1)))]) hC.1 hC.2.1 dX6_stepWays_103 hl (by decide) rfl (fun ls hl => ?_)
              refine lv_aload_n hC.1 hC.2.1 dX6_stepWays_105 rfl (lv_at hl 6 rfl) ?_
              refine g_way_ways hC fi_X6_stepWays_X6 hK hX (wd9 hC 1 rfl) dX6_stepWays_106 ?_
              refine lv_iload hC.1 hC.2.1 dX6_stepWays_109 (lv_at hl 3 rfl) ?_
              refine lv_iconst (v := nI (1)) hC.1 hC.2.1 dX6_stepWays_111 rfl ?_
              refine n_sub hC (a := i + 1) (b := 1) dX6_stepWays_112 (by omega) ?_
              refine l_ways hC hK hX (i := (i + 1) - (1)) (by omega) dX6_stepWays_113 (v := wcol (tkX (pd_ptf q0) (st_text (x_now S))) fr0 (e0 + 1) i) (hf1 i (Nat.le_refl i)) ?_
              refine lv_ldc (v := (2097280 : Int32)) hC.1 hC.2.1 hC.2.2.2.1 (wd9 hC 4 rfl) dX6_stepWays_114 ?_
              refine n_top (y := nI 2097280) (by decide +kernel) ?_
              refine n_add hC (a := wcol (tkX (pd_ptf q0) (st_text (x_now S))) fr0 (e0 + 1) i) (b := 2097280) dX6_stepWays_116 ?_
              refine lv_istore (lv' := [(11, .int (nI ((wcol (tkX (pd_ptf q0) (st_text (x_now S))) fr0 (e0 + 1) i) + (2097280)))), (10, .int (nI ((x_ways S (i + 1)) + (2113536)))), (9, .int (nI (x_ways S i + if (tkX (pd_ptf q0) (st_text (x_now S))) i (fr0 + e0) = true then 0 else 2097153))), (8, .int (bI ((tkX (pd_ptf q0) (st_text (x_now S))) i (fr0 + e0)))), (7, .int (nI (i + 1))), (6, .int (nI (x_ways S i))), (4, .long (pd_ptf q0 (sgc ((st_text (x_now S)) (fr0 + e0))))), (0, .ref (ad 32)), (1, .ref (ad 0)), (2, .ref (pd_a q0)), (3, .int (nI (fr0 + e0 + 1)))]) hC.1 hC.2.1 dX6_stepWays_117 hl (by decide) rfl (fun ls hl => ?_)
              refine lv_aload_n hC.1 hC.2.1 dX6_stepWays_119 rfl (lv_at hl 7 rfl) ?_
              refine g_way_ways hC fi_X6_stepWays_X6 hK hX (wd9 hC 1 rfl) dX6_stepWays_120 ?_
              refine lv_iload hC.1 hC.2.1 dX6_stepWays_123 (lv_at hl 4 rfl) ?_
              refine l_ways hC hK hX (i := i + 1) (by omega) dX6_stepWays_125 (v := x_ways S (i + 1)) (hf2 (i + 1) (by omega)) ?_
              refine lv_istore (lv' := [(6, .int (nI (x_ways S (i + 1)))), (11, .int (nI ((wcol (tkX (pd_ptf q0) (st_text (x_now S))) fr0 (e0 + 1) i) + (2097280)))), (10, .int (nI ((x_ways S (i + 1)) + (2113536)))), (9, .int (nI (x_ways S i + if (tkX (pd_ptf q0) (st_text (x_now S))) i (fr0 + e0) = true then 0 else 2097153))), (8, .int (bI ((tkX (pd_ptf q0) (st_text (x_now S))) i (fr0 + e0)))), (7, .int (nI (i + 1))), (4, .long (pd_ptf q0 (sgc ((st_text (x_now S)) (fr0 + e0))))), (0, .ref (ad 32)), (1, .ref (ad 0)), (2, .ref (pd_a q0)), (3, .int (nI (fr0 + e0 + 1)))]) hC.1 hC.2.1 dX6_stepWays_126 hl (by decide) rfl (fun ls hl => ?_)
              refine lv_aload_n hC.1 hC.2.1 dX6_stepWays_128 rfl (lv_at hl 7 rfl) ?_
              refine g_way_ways hC fi_X6_stepWays_X6 hK hX (wd9 hC 1 rfl) dX6_stepWays_129 ?_
              refine lv_iload hC.1 hC.2.1 dX6_stepWays_132 (lv_at hl 5 rfl) ?_
              refine lv_iload hC.1 hC.2.1 dX6_stepWays_134 (lv_at hl 3 rfl) ?_
              refine lv_iload hC.1 hC.2.1 dX6_stepWays_136 (lv_at hl 2 rfl) ?_
              refine ps_I (As := [.int (nI (x_ways S i + if (tkX (pd_ptf q0) (st_text (x_now S))) i (fr0 + e0) = true then 0 else 2097153)), .int (nI ((x_ways S (i + 1)) + (2113536)))]) (rest := [.int (nI (i + 1)), .ref (ad 33)]) hC hK hA hX (c_X6_firstOfFewest l G (x_ways S i + if (tkX (pd_ptf q0) (st_text (x_now S))) i (fr0 + e0) = true then 0 else 2097153) ((x_ways S (i + 1)) + (2113536)) (by split <;> omega) (by omega)) (va_cwS 2 hC.2.2.2.2 gX6_stepWays_X6_firstOfFewest rfl rfl rfl hd_X6_firstOfFewest_s ⟨Nat.le_of_ble_eq_true rfl, Nat.le_of_ble_eq_true rfl⟩) dX6_stepWays_138 rfl hl.1 rfl (Nat.le_of_ble_eq_true rfl) ⟨(Nat.zero_le _), (Nat.zero_le _)⟩ (fun r9 S9 H locs hp9 hX => ?_)
              obtain rfl := hp9
              replace hX : HH G A s.heap (wX G ad (u_ways (S) (f))) H locs := hX
              refine lv_iload hC.1 hC.2.1 dX6_stepWays_141 (lv_at hl 1 rfl) ?_
              refine ps_I (As := [.int (nI (fof (x_ways S i + if (tkX (pd_ptf q0) (st_text (x_now S))) i (fr0 + e0) = true then 0 else 2097153) ((x_ways S (i + 1)) + (2113536)))), .int (nI ((wcol (tkX (pd_ptf q0) (st_text (x_now S))) fr0 (e0 + 1) i) + (2097280)))]) (rest := [.int (nI (i + 1)), .ref (ad 33)]) hC hK hA hX (c_X6_firstOfFewest l G (fof (x_ways S i + if (tkX (pd_ptf q0) (st_text (x_now S))) i (fr0 + e0) = true then 0 else 2097153) ((x_ways S (i + 1)) + (2113536))) ((wcol (tkX (pd_ptf q0) (st_text (x_now S))) fr0 (e0 + 1) i) + (2097280)) (hfb) (by omega)) (va_cwS 2 hC.2.2.2.2 gX6_stepWays_X6_firstOfFewest rfl rfl rfl hd_X6_firstOfFewest_s ⟨Nat.le_of_ble_eq_true rfl, Nat.le_of_ble_eq_true rfl⟩) dX6_stepWays_143 rfl hl.1 rfl (Nat.le_of_ble_eq_true rfl) ⟨(Nat.zero_le _), (Nat.zero_le _)⟩ (fun r9 S9 H locs hp9 hX => ?_)
              obtain rfl := hp9
              replace hX : HH G A s.heap (wX G ad (u_ways (S) (f))) H locs := hX
              refine s_ways hC hK hX (i := i + 1) (v := fof (fof (x_ways S i + if (tkX (pd_ptf q0) (st_text (x_now S))) i (fr0 + e0) = true then 0 else 2097153) ((x_ways S (i + 1)) + (2113536))) ((wcol (tkX (pd_ptf q0) (st_text (x_now S))) fr0 (e0 + 1) i) + (2097280))) (by omega) dX6_stepWays_146 (fun H locs hX => ?_)
              replace hX : HH G A s.heap (wX G ad (u_ways (S) (va_up (f) (i + 1) (fof (fof (x_ways S i + if (tkX (pd_ptf q0) (st_text (x_now S))) i (fr0 + e0) = true then 0 else 2097153) ((x_ways S (i + 1)) + (2113536))) ((wcol (tkX (pd_ptf q0) (st_text (x_now S))) fr0 (e0 + 1) i) + (2097280)))))) H locs := hX
              refine lv_iinc (v := nI ((i + 1) + 1)) (lv' := [(7, .int (nI ((i + 1) + 1))), (6, .int (nI (x_ways S (i + 1)))), (11, .int (nI ((wcol (tkX (pd_ptf q0) (st_text (x_now S))) fr0 (e0 + 1) i) + (2097280)))), (10, .int (nI ((x_ways S (i + 1)) + (2113536)))), (9, .int (nI (x_ways S i + if (tkX (pd_ptf q0) (st_text (x_now S))) i (fr0 + e0) = true then 0 else 2097153))), (8, .int (bI ((tkX (pd_ptf q0) (st_text (x_now S))) i (fr0 + e0)))), (4, .long (pd_ptf q0 (sgc ((st_text (x_now S)) (fr0 + e0))))), (0, .ref (ad 32)), (1, .ref (ad 0)), (2, .ref (pd_a q0)), (3, .int (nI (fr0 + e0 + 1)))]) hC.1 hC.2.1 dX6_stepWays_147 hl (k := 5) rfl (n_inc1 _) (by decide) rfl (fun ls hl => ?_)
              refine lv_goto (tgt := 39) hC.1 hC.2.1 dX6_stepWays_150 (by decide) ?_
              refine ih39 (i + 1) (va_up (f) (i + 1) (fof (fof (x_ways S i + if (tkX (pd_ptf q0) (st_text (x_now S))) i (fr0 + e0) = true then 0 else 2097153) ((x_ways S (i + 1)) + (2113536))) ((wcol (tkX (pd_ptf q0) (st_text (x_now S))) fr0 (e0 + 1) i) + (2097280)))) ?_ ?_ ?_ ?_ _ _ ls hX (lv_sub hl [0, 1, 6, 7, 8, 9, 10] rfl)
              · omega
              · exact fun j hj => by
                  by_cases h : j = i + 1
                  · subst h; rw [va_up_self, wcol_ss, hc0 i hi, hc0 (i + 1) (by omega)]
                  · rw [va_up_ne _ _ h]; exact hf1 j (by omega)
              · exact fun j hj => by rw [va_up_ne _ _ (by omega)]; exact hf2 j (by omega)
              · omega
            refine b_if_eq hC (b := (tkX (pd_ptf q0) (st_text (x_now S))) i (fr0 + e0)) (tgt := 86) dX6_stepWays_78 (by decide) (fun c78 => ?_) (fun c78 => ?_)
            · skip
              refine lv_iload hC.1 hC.2.1 dX6_stepWays_86 (lv_at hl 2 rfl) ?_
              refine lv_ldc (v := (2097153 : Int32)) hC.1 hC.2.1 hC.2.2.2.1 (wd9 hC 3 rfl) dX6_stepWays_88 ?_
              refine n_top (y := nI 2097153) (by decide +kernel) ?_
              refine n_add hC (a := x_ways S i) (b := 2097153) dX6_stepWays_90 ?_
              refine n_top (y := nI (x_ways S i + if (tkX (pd_ptf q0) (st_text (x_now S))) i (fr0 + e0) = true then 0 else 2097153)) (by first | rw [if_pos (by assumption), Nat.add_zero] | rw [if_neg (by simp_all)]) ?_
              refine join91  _ _ ls  hX (lv_sub hl [0, 1, 2, 3, 4, 5, 6, 7] rfl)
            · skip
              refine lv_iload hC.1 hC.2.1 dX6_stepWays_81 (lv_at hl 2 rfl) ?_
              refine lv_goto (tgt := 91) hC.1 hC.2.1 dX6_stepWays_83 (by decide) ?_
              refine n_top (y := nI (x_ways S i + if (tkX (pd_ptf q0) (st_text (x_now S))) i (fr0 + e0) = true then 0 else 2097153)) (by first | rw [if_pos (by assumption), Nat.add_zero] | rw [if_neg (by simp_all)]) ?_
              refine join91  _ _ ls  hX (lv_sub hl [0, 1, 2, 3, 4, 5, 6, 7] rfl)
          refine lv_if_eq hC.1 hC.2.1 (x := lg_cmp ((((pd_ptf q0 (sgc ((st_text (x_now S)) (fr0 + e0)))).toUInt64 >>> ((nI (i)).toInt64.toUInt64 &&& Int64.toUInt64 63)).toInt64) &&& (lN 1)) (lN 0)) (tgt := 73) dX6_stepWays_66 (by decide) (fun c66 => ?_) (fun c66 => ?_)
          · skip
            refine lv_iconst (v := nI (0)) hC.1 hC.2.1 dX6_stepWays_73 rfl ?_
            refine n_top (y := bI ((tkX (pd_ptf q0) (st_text (x_now S))) i (fr0 + e0))) (by first | exact bI_0 ((colBit (by omega)).mp c66) | exact bI_1 (by have h9 := c66; rw [colBit (by omega)] at h9; simpa [tkX] using h9)) ?_
            refine join74  _ _ ls  hX (lv_sub hl [0, 1, 2, 3, 4, 5, 6] rfl)
          · skip
            refine lv_iconst (v := nI (1)) hC.1 hC.2.1 dX6_stepWays_69 rfl ?_
            refine lv_goto (tgt := 74) hC.1 hC.2.1 dX6_stepWays_70 (by decide) ?_
            refine n_top (y := bI ((tkX (pd_ptf q0) (st_text (x_now S))) i (fr0 + e0))) (by first | exact bI_0 ((colBit (by omega)).mp c66) | exact bI_1 (by have h9 := c66; rw [colBit (by omega)] at h9; simpa [tkX] using h9)) ?_
            refine join74  _ _ ls  hX (lv_sub hl [0, 1, 2, 3, 4, 5, 6] rfl)
  refine loop39 _ (0) (va_up (x_ways S) (0) (((x_ways S) 0) + (2113536))) ?_ ?_ ?_ (Nat.lt_succ_self _) _ _ ls hX (lv_sub hl [0, 1, 2, 3, 4, 5, 6] rfl)
  · omega
  · exact fun j hj => by
      obtain rfl : j = 0 := by omega
      rw [va_up_self, wcol_s0, hc0 0 (Nat.zero_le _)]
  · exact fun j hj => va_up_ne _ _ (by omega)
theorem fi_X6_countSlips_X6 : ∀ w ∈ wsX60, w ∈ wsX6_countSlips := by decide +kernel
theorem fi_X6_countSlips_X2 : ∀ w ∈ wsX20, w ∈ wsX6_countSlips := by decide +kernel
theorem hd_X6_stepWays : yX6_stepWays.cls = RX6 ∧ yX6_stepWays.cls ≠ "java/lang/invoke/MethodHandle" ∧ yX6_stepWays.cls ≠ "java/lang/invoke/VarHandle" ∧ (parseMethodDescriptor yX6_stepWays.desc).map (fun d => d.parameters.length) = some 3 := by decide +kernel
set_option maxHeartbeats 4000000 in
set_option maxRecDepth 100000 in
theorem c_X6_countSlips (l : Launch) (G : GX) (ad : Nat → Nat) (S : XS) (q0 : PatD) (jq0 : Nat) (hq_q0 : (x_pool S)[jq0]? = some q0) (hm0 : pd_cnt q0 ≤ 60) (hT0 : okT (st_text (x_now S)) (st_len (x_now S))) (hn0 : st_len (x_now S) ≤ 120) (fr0 to0 w0 : Nat) (hf0 : fr0 ≤ to0) (ht0 : to0 ≤ st_len (x_now S)) (hw0 : w0 ≤ 3) : CtI l yX6_countSlips wsX6_countSlips { frames := 2, cells := 0, slots := 0, locals := 53 } G (wX G ad) (S) [.ref (ad 32), .ref (ad 0), .ref (pd_a q0), .int (nI (fr0)), .int (nI (to0)), .int (nI (w0))] (fun r S' => ∃ f, S' = u_ways S f ∧ r = nI (wayV (wcol (tkX (pd_ptf q0) (st_text (x_now S))) fr0 (to0 - fr0) (pd_cnt q0)) w0)) 0 0 := by
  refine CtI.of (cc := cX6_countSlips) (maxL := 8) (ret := some .int) (by decide +kernel) rfl (Nat.le_of_ble_eq_true rfl) ?_
  intro p e s m args below meth c ls A hC hr hlk hin hK hA hX hl
  have hl : lv_has ls 8 [(0, .ref (ad 32)), (1, .ref (ad 0)), (2, .ref (pd_a q0)), (3, .int (nI (fr0))), (4, .int (nI (to0))), (5, .int (nI (w0)))] := hl
  have hwb : ∀ e i, e ≤ 120 → i ≤ 60 → wcol (tkX (pd_ptf q0) (st_text (x_now S))) fr0 e i < 300000000 := fun e i h1 h2 => isWay_lt (wcol_way (tkX (pd_ptf q0) (st_text (x_now S))) fr0 e i h1 h2) (by omega)
  refine lv_aload_n hC.1 hC.2.1 dX6_countSlips_0 rfl (lv_at hl 0 rfl) ?_
  refine g_way_ways hC fi_X6_countSlips_X6 hK hX (wd9 hC 1 rfl) dX6_countSlips_1 ?_
  refine lv_iconst (v := nI (0)) hC.1 hC.2.1 dX6_countSlips_4 rfl ?_
  refine lv_iconst (v := nI (0)) hC.1 hC.2.1 dX6_countSlips_5 rfl ?_
  refine s_ways hC hK hX (i := 0) (v := 0) (by decide) dX6_countSlips_6 (fun H locs hX => ?_)
  replace hX : HH G A s.heap (wX G ad (u_ways (S) (va_up (x_ways S) (0) (0)))) H locs := hX
  refine lv_iconst (v := nI (1)) hC.1 hC.2.1 dX6_countSlips_7 rfl ?_
  refine lv_istore (lv' := [(6, .int (nI (1))), (0, .ref (ad 32)), (1, .ref (ad 0)), (2, .ref (pd_a q0)), (3, .int (nI (fr0))), (4, .int (nI (to0))), (5, .int (nI (w0)))]) hC.1 hC.2.1 dX6_countSlips_8 hl (by decide) rfl (fun ls hl => ?_)
  have loop10 : ∀ (n9 : Nat) (i : Nat) (f : Nat → Nat), (i ≤ 60) → (∀ j, j ≤ i → f j = 2097280 * j) → 60 - i < n9 → ∀ (H : Heap) (locs : List Loc) (ls : Array Slot), HH G A s.heap (wX G ad (u_ways (S) (f))) H locs → lv_has ls 8 [(6, .int (nI (i + 1))), (0, .ref (ad 32)), (1, .ref (ad 0)), (2, .ref (pd_a q0)), (3, .int (nI (fr0))), (4, .int (nI (to0))), (5, .int (nI (w0)))] → W p l e { frames := 2, cells := 0, slots := 0, locals := 53 } s m args below meth c H locs 0 0 (EndI G (wX G ad) A (fun r S' => ∃ f, S' = u_ways S f ∧ r = nI (wayV (wcol (tkX (pd_ptf q0) (st_text (x_now S))) fr0 (to0 - fr0) (pd_cnt q0)) w0)) below args s 0 0) (F0 m 10 ls []) := by
    intro n9
    induction n9 with
    | zero => intro i f hi hf hn9; exact absurd hn9 (Nat.not_lt_zero _)
    | succ n9 ih10 =>
      intro i f hi hf hn9 H locs ls hX hl
      refine lv_iload hC.1 hC.2.1 dX6_countSlips_10 (lv_at hl 0 rfl) ?_
      refine lv_bipush (v := nI (60)) hC.1 hC.2.1 dX6_countSlips_12 (by decide +kernel) ?_
      refine n_icmp_gt hC (a := i + 1) (b := 60) (tgt := 42) dX6_countSlips_14 (by decide) (by omega) (by decide) (fun c14 => ?_) (fun c14 => ?_)
      · skip
        refine lv_iload_n hC.1 hC.2.1 dX6_countSlips_42 rfl (lv_at hl 4 rfl) ?_
        refine lv_iconst (v := nI (1)) hC.1 hC.2.1 dX6_countSlips_43 rfl ?_
        refine n_add hC (a := fr0) (b := 1) dX6_countSlips_44 ?_
        refine lv_istore (lv' := [(6, .int (nI (fr0 + 1))), (0, .ref (ad 32)), (1, .ref (ad 0)), (2, .ref (pd_a q0)), (3, .int (nI (fr0))), (4, .int (nI (to0))), (5, .int (nI (w0)))]) hC.1 hC.2.1 dX6_countSlips_45 hl (by decide) rfl (fun ls hl => ?_)
        have loop47 : ∀ (n9 : Nat) (i : Nat) (wf : Nat → Nat), (fr0 + i ≤ to0) → (∀ j, j ≤ pd_cnt q0 → wf j = wcol (tkX (pd_ptf q0) (st_text (x_now S))) fr0 i j) → to0 - fr0 - i < n9 → ∀ (H : Heap) (locs : List Loc) (ls : Array Slot), HH G A s.heap (wX G ad (u_ways (S) (wf))) H locs → lv_has ls 8 [(6, .int (nI (fr0 + i + 1))), (0, .ref (ad 32)), (1, .ref (ad 0)), (2, .ref (pd_a q0)), (3, .int (nI (fr0))), (4, .int (nI (to0))), (5, .int (nI (w0)))] → W p l e { frames := 2, cells := 0, slots := 0, locals := 53 } s m args below meth c H locs 0 0 (EndI G (wX G ad) A (fun r S' => ∃ f, S' = u_ways S f ∧ r = nI (wayV (wcol (tkX (pd_ptf q0) (st_text (x_now S))) fr0 (to0 - fr0) (pd_cnt q0)) w0)) below args s 0 0) (F0 m 47 ls []) := by
          intro n9
          induction n9 with
          | zero => intro i wf hi hwf hn9; exact absurd hn9 (Nat.not_lt_zero _)
          | succ n9 ih47 =>
            intro i wf hi hwf hn9 H locs ls hX hl
            refine lv_iload hC.1 hC.2.1 dX6_countSlips_47 (lv_at hl 0 rfl) ?_
            refine lv_iload hC.1 hC.2.1 dX6_countSlips_49 (lv_at hl 5 rfl) ?_
            refine n_icmp_gt hC (a := fr0 + i + 1) (b := to0) (tgt := 75) dX6_countSlips_51 (by decide) (by omega) (by omega) (fun c51 => ?_) (fun c51 => ?_)
            · skip
              refine lv_aload_n hC.1 hC.2.1 dX6_countSlips_75 rfl (lv_at hl 3 rfl) ?_
              refine gN_pat_placeCount hC fi_X6_countSlips_X2 hK hX hq_q0 (hnf hK 14 rfl) dX6_countSlips_76 (v := pd_cnt q0) rfl ?_
              refine lv_istore (lv' := [(6, .int (nI (pd_cnt q0))), (0, .ref (ad 32)), (1, .ref (ad 0)), (2, .ref (pd_a q0)), (3, .int (nI (fr0))), (4, .int (nI (to0))), (5, .int (nI (w0)))]) hC.1 hC.2.1 dX6_countSlips_79 hl (by decide) rfl (fun ls hl => ?_)
              refine lv_iload hC.1 hC.2.1 dX6_countSlips_81 (lv_at hl 0 rfl) ?_
              refine n_if_lt hC (a := pd_cnt q0) (tgt := 103) dX6_countSlips_83 (by decide) (by omega) ?_
              refine lv_iload hC.1 hC.2.1 dX6_countSlips_86 (lv_at hl 0 rfl) ?_
              refine lv_bipush (v := nI (60)) hC.1 hC.2.1 dX6_countSlips_88 (by decide +kernel) ?_
              refine n_icmp_gt hC (a := pd_cnt q0) (b := 60) (tgt := 103) dX6_countSlips_90 (by decide) (by omega) (by decide) (fun c90 => ?_) (fun c90 => ?_)
              · exfalso; omega
              · skip
                have hb9 := hwb (to0 - fr0) (pd_cnt q0) (by omega) hm0
                refine lv_aload_n hC.1 hC.2.1 dX6_countSlips_93 rfl (lv_at hl 1 rfl) ?_
                refine g_way_ways hC fi_X6_countSlips_X6 hK hX (wd9 hC 1 rfl) dX6_countSlips_94 ?_
                refine lv_iload hC.1 hC.2.1 dX6_countSlips_97 (lv_at hl 0 rfl) ?_
                refine l_ways hC hK hX (i := pd_cnt q0) (by omega) dX6_countSlips_99 (v := wcol (tkX (pd_ptf q0) (st_text (x_now S))) fr0 (to0 - fr0) (pd_cnt q0)) (show wf (pd_cnt q0) = _ from by rw [hwf _ (Nat.le_refl _)]; congr 1; omega) ?_
                refine lv_goto (tgt := 104) hC.1 hC.2.1 dX6_countSlips_100 (by decide) ?_
                refine lv_istore (lv' := [(7, .int (nI (wcol (tkX (pd_ptf q0) (st_text (x_now S))) fr0 (to0 - fr0) (pd_cnt q0)))), (6, .int (nI (pd_cnt q0))), (0, .ref (ad 32)), (1, .ref (ad 0)), (2, .ref (pd_a q0)), (3, .int (nI (fr0))), (4, .int (nI (to0))), (5, .int (nI (w0)))]) hC.1 hC.2.1 dX6_countSlips_104 hl (by decide) rfl (fun ls hl => ?_)
                refine lv_iload hC.1 hC.2.1 dX6_countSlips_106 (lv_at hl 0 rfl) ?_
                refine lv_iconst (v := nI (3)) hC.1 hC.2.1 dX6_countSlips_108 rfl ?_
                refine lv_iload hC.1 hC.2.1 dX6_countSlips_109 (lv_at hl 7 rfl) ?_
                refine n_sub hC (a := 3) (b := w0) dX6_countSlips_111 (by omega) ?_
                refine lv_bipush (v := nI (7)) hC.1 hC.2.1 dX6_countSlips_112 (by decide +kernel) ?_
                refine n_mul hC (a := 3 - w0) (b := 7) dX6_countSlips_114 ?_
                refine lv_ishr hC.1 hC.2.1 dX6_countSlips_115 ?_
                refine n_top (y := nI ((wcol (tkX (pd_ptf q0) (st_text (x_now S))) fr0 (to0 - fr0) (pd_cnt q0)) / 2 ^ ((3 - w0) * 7))) (shr_way (by omega) hw0) ?_
                refine lv_bipush (v := nI (127)) hC.1 hC.2.1 dX6_countSlips_116 (by decide +kernel) ?_
                refine lv_iand hC.1 hC.2.1 dX6_countSlips_118 ?_
                refine n_top (y := nI ((wcol (tkX (pd_ptf q0) (st_text (x_now S))) fr0 (to0 - fr0) (pd_cnt q0)) / 2 ^ ((3 - w0) * 7) % 128)) (and_way (Nat.lt_of_le_of_lt (Nat.div_le_self _ _) (by omega))) ?_
                refine r_ireturn hC hr hlk hX dX6_countSlips_119 ?_
                exact ⟨wf, rfl, rfl⟩
            · skip
              refine lv_iload hC.1 hC.2.1 dX6_countSlips_54 (lv_at hl 0 rfl) ?_
              refine lv_bipush (v := nI (120)) hC.1 hC.2.1 dX6_countSlips_56 (by decide +kernel) ?_
              refine n_icmp_gt hC (a := fr0 + i + 1) (b := 120) (tgt := 75) dX6_countSlips_58 (by decide) (by omega) (by decide) (fun c58 => ?_) (fun c58 => ?_)
              · exfalso; omega
              · skip
                refine lv_aload_n hC.1 hC.2.1 dX6_countSlips_61 rfl (lv_at hl 1 rfl) ?_
                refine lv_aload_n hC.1 hC.2.1 dX6_countSlips_62 rfl (lv_at hl 2 rfl) ?_
                refine lv_aload_n hC.1 hC.2.1 dX6_countSlips_63 rfl (lv_at hl 3 rfl) ?_
                refine lv_iload hC.1 hC.2.1 dX6_countSlips_64 (lv_at hl 0 rfl) ?_
                refine cv_V (As := [.ref (ad 0), .ref (pd_a q0), .int (nI (fr0 + i + 1))]) (rest := []) hC hK hA hX (c_X6_stepWays l G ad (u_ways (S) (wf)) q0 _ hq_q0 hm0 hT0 hn0 fr0 i (show fr0 + i < st_len (x_now S) from by omega) hwf) (cwV 3 hC.2.2.2.2 gX6_countSlips_X6_stepWays rfl rfl rfl hd_X6_stepWays ⟨Nat.le_of_ble_eq_true rfl, Nat.le_of_ble_eq_true rfl⟩) (ci := 6) (q := (RX6, TX6, 1)) rfl (q0 := 32) rfl dX6_countSlips_66 rfl hl.1 rfl (Nat.le_of_ble_eq_true rfl) ⟨(Nat.zero_le _), (Nat.zero_le _)⟩ (fun S9 H locs hp9 hX => ?_)
                obtain ⟨wf66, hS9, hwf66⟩ := hp9
                rw [hS9] at hX
                replace hX : HH G A s.heap (wX G ad (u_ways (S) (wf66))) H locs := hX
                refine lv_iinc (v := nI ((fr0 + i + 1) + 1)) (lv' := [(6, .int (nI ((fr0 + i + 1) + 1))), (0, .ref (ad 32)), (1, .ref (ad 0)), (2, .ref (pd_a q0)), (3, .int (nI (fr0))), (4, .int (nI (to0))), (5, .int (nI (w0)))]) hC.1 hC.2.1 dX6_countSlips_69 hl (k := 0) rfl (n_inc1 _) (by decide) rfl (fun ls hl => ?_)
                refine lv_goto (tgt := 47) hC.1 hC.2.1 dX6_countSlips_72 (by decide) ?_
                refine ih47 (i + 1) (wf66) ?_ ?_ ?_ _ _ ls hX (lv_sub hl [0, 1, 2, 3, 4, 5, 6] rfl)
                · omega
                · exact hwf66
                · omega
        refine loop47 _ (0) (f) ?_ ?_ (Nat.lt_succ_self _) _ _ ls hX (lv_sub hl [0, 1, 2, 3, 4, 5, 6] rfl)
        · omega
        · exact fun j hj => by rw [hf j (by omega), wcol_0]
      · skip
        refine lv_aload_n hC.1 hC.2.1 dX6_countSlips_17 rfl (lv_at hl 1 rfl) ?_
        refine g_way_ways hC fi_X6_countSlips_X6 hK hX (wd9 hC 1 rfl) dX6_countSlips_18 ?_
        refine lv_iload hC.1 hC.2.1 dX6_countSlips_21 (lv_at hl 0 rfl) ?_
        refine lv_aload_n hC.1 hC.2.1 dX6_countSlips_23 rfl (lv_at hl 1 rfl) ?_
        refine g_way_ways hC fi_X6_countSlips_X6 hK hX (wd9 hC 1 rfl) dX6_countSlips_24 ?_
        refine lv_iload hC.1 hC.2.1 dX6_countSlips_27 (lv_at hl 0 rfl) ?_
        refine lv_iconst (v := nI (1)) hC.1 hC.2.1 dX6_countSlips_29 rfl ?_
        refine n_sub hC (a := i + 1) (b := 1) dX6_countSlips_30 (by omega) ?_
        refine n_top (y := nI (i)) rfl ?_
        refine l_ways hC hK hX (i := i) (by omega) dX6_countSlips_31 (v := 2097280 * i) (hf i (Nat.le_refl i)) ?_
        refine lv_ldc (v := (2097280 : Int32)) hC.1 hC.2.1 hC.2.2.2.1 (wd9 hC 2 rfl) dX6_countSlips_32 ?_
        refine n_top (y := nI 2097280) (by decide +kernel) ?_
        refine n_add hC (a := 2097280 * i) (b := 2097280) dX6_countSlips_34 ?_
        refine s_ways hC hK hX (i := i + 1) (v := (2097280 * i) + (2097280)) (by omega) dX6_countSlips_35 (fun H locs hX => ?_)
        replace hX : HH G A s.heap (wX G ad (u_ways (S) (va_up (f) (i + 1) ((2097280 * i) + (2097280))))) H locs := hX
        refine lv_iinc (v := nI ((i + 1) + 1)) (lv' := [(6, .int (nI ((i + 1) + 1))), (0, .ref (ad 32)), (1, .ref (ad 0)), (2, .ref (pd_a q0)), (3, .int (nI (fr0))), (4, .int (nI (to0))), (5, .int (nI (w0)))]) hC.1 hC.2.1 dX6_countSlips_36 hl (k := 0) rfl (n_inc1 _) (by decide) rfl (fun ls hl => ?_)
        refine lv_goto (tgt := 10) hC.1 hC.2.1 dX6_countSlips_39 (by decide) ?_
        refine ih10 (i + 1) (va_up (f) (i + 1) ((2097280 * i) + (2097280))) ?_ ?_ ?_ _ _ ls hX (lv_sub hl [0, 1, 2, 3, 4, 5, 6] rfl)
        · omega
        · exact fun j hj => by
            by_cases h : j = i + 1
            · subst h; rw [va_up_self]; omega
            · rw [va_up_ne _ _ h]; exact hf j (by omega)
        · omega
  refine loop10 _ (0) (va_up (x_ways S) (0) (0)) ?_ ?_ (Nat.lt_succ_self _) _ _ ls hX (lv_sub hl [0, 1, 2, 3, 4, 5, 6] rfl)
  · omega
  · exact fun j hj => by
      obtain rfl : j = 0 := by omega
      exact va_up_self _ _ _
