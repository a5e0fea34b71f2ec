theorem fi_X2_signsOf_X2 : ∀ w ∈ wsX20, w ∈ wsX2_signsOf := by decide +kernel
set_option maxHeartbeats 4000000 in
set_option maxRecDepth 100000 in
theorem c_X2_signsOf (l : Launch) (G : GX) (ad : Nat → Nat) (S : XS) (q0 : PatD) (jq0 : Nat) (hq_q0 : (x_pool S)[jq0]? = some q0) (i0 : Nat) (hi0 : i0 < 60) : CtI l yX2_signsOf wsX2_signsOf { frames := 0, cells := 0, slots := 0, locals := 0 } G (wX G ad) (S) [.ref (pd_a q0), .int (nI (i0))] (fun r S' => r = nI (pd_plf q0 i0) ∧ S' = S) 0 0 := by
  refine CtI.of (cc := cX2_signsOf) (maxL := 2) (ret := some .int) (by decide +kernel) rfl (Nat.le_of_ble_eq_true rfl) ?_
  intro p e s m args below meth c ls A hC hr hlk hin hK hA hX hl
  have hl : lv_has ls 2 [(0, .ref (pd_a q0)), (1, .int (nI (i0)))] := hl
  refine lv_iload_n hC.1 hC.2.1 dX2_signsOf_0 rfl (lv_at hl 1 rfl) ?_
  refine n_if_lt hC (a := i0) (tgt := 19) dX2_signsOf_1 (by decide) (by omega) ?_
  refine lv_iload_n hC.1 hC.2.1 dX2_signsOf_4 rfl (lv_at hl 1 rfl) ?_
  refine lv_bipush (v := nI (60)) hC.1 hC.2.1 dX2_signsOf_5 (by decide +kernel) ?_
  refine n_icmp_ge hC (a := i0) (b := 60) (tgt := 19) dX2_signsOf_7 (by decide) (by omega) (by decide) (fun c7 => ?_) (fun c7 => ?_)
  · exfalso; omega
  · skip
    refine lv_aload_n hC.1 hC.2.1 dX2_signsOf_10 rfl (lv_at hl 0 rfl) ?_
    refine g_pat_places hC fi_X2_signsOf_X2 hK hX hq_q0 (wd9 hC 1 rfl) dX2_signsOf_11 ?_
    refine lv_iload_n hC.1 hC.2.1 dX2_signsOf_14 rfl (lv_at hl 1 rfl) ?_
    refine l_plf hC hK hX hq_q0 (i := i0) (by omega) dX2_signsOf_15 (v := (pd_plf q0) i0) rfl ?_
    refine lv_goto (tgt := 20) hC.1 hC.2.1 dX2_signsOf_16 (by decide) ?_
    refine r_ireturn hC hr hlk hX dX2_signsOf_20 ?_
    exact ⟨rfl, rfl⟩
theorem fi_X2_placesThatTake_X2 : ∀ w ∈ wsX20, w ∈ wsX2_placesThatTake := by decide +kernel
set_option maxHeartbeats 4000000 in
set_option maxRecDepth 100000 in
theorem c_X2_placesThatTake (l : Launch) (G : GX) (ad : Nat → Nat) (S : XS) (q0 : PatD) (jq0 : Nat) (hq_q0 : (x_pool S)[jq0]? = some q0) (c0 : Nat) (hc0 : isSgn c0 = true) : CtL l yX2_placesThatTake wsX2_placesThatTake { frames := 0, cells := 0, slots := 0, locals := 0 } G (wX G ad) (S) [.ref (pd_a q0), .int (nI (c0))] (fun r S' => r = pd_ptf q0 (sgc c0) ∧ S' = S) 0 0 := by
  refine CtL.of (cc := cX2_placesThatTake) (maxL := 3) (ret := some .long) (by decide +kernel) rfl (Nat.le_of_ble_eq_true rfl) ?_
  intro p e s m args below meth c ls A hC hr hlk hin hK hA hX hl
  have hl : lv_has ls 3 [(0, .ref (pd_a q0)), (1, .int (nI (c0)))] := hl
  have hc1 : c0 = 32 ∨ (97 ≤ c0 ∧ c0 ≤ 122) := by
    simp only [isSgn, isLet, decide_eq_true_eq] at hc0
    omega
  have hc2 := sgc_lt hc0
  refine lv_iload_n hC.1 hC.2.1 dX2_placesThatTake_0 rfl (lv_at hl 1 rfl) ?_
  refine lv_bipush (v := nI (32)) hC.1 hC.2.1 dX2_placesThatTake_1 (by decide +kernel) ?_
  have join15 : ∀ (H : Heap) (locs : List Loc) (ls : Array Slot), HH G A s.heap (wX G ad (S)) H locs → lv_has ls 3 [(0, .ref (pd_a q0)), (1, .int (nI (c0)))] → W p l e { frames := 0, cells := 0, slots := 0, locals := 0 } s m args below meth c H locs 0 0 (EndL G (wX G ad) A (fun r S' => r = pd_ptf q0 (sgc c0) ∧ S' = S) below args s 0 0) (F0 m 15 ls [.int (nI (sgc c0))]) := by
    intro  H locs ls  hX hl
    refine lv_istore_n (lv' := [(2, .int (nI (sgc c0))), (0, .ref (pd_a q0)), (1, .int (nI (c0)))]) hC.1 hC.2.1 dX2_placesThatTake_15 rfl hl (by decide) rfl (fun ls hl => ?_)
    refine lv_iload_n hC.1 hC.2.1 dX2_placesThatTake_16 rfl (lv_at hl 0 rfl) ?_
    refine n_if_lt hC (a := sgc c0) (tgt := 35) dX2_placesThatTake_17 (by decide) (by omega) ?_
    refine lv_iload_n hC.1 hC.2.1 dX2_placesThatTake_20 rfl (lv_at hl 0 rfl) ?_
    refine lv_bipush (v := nI (27)) hC.1 hC.2.1 dX2_placesThatTake_21 (by decide +kernel) ?_
    refine n_icmp_ge hC (a := sgc c0) (b := 27) (tgt := 35) dX2_placesThatTake_23 (by decide) (by omega) (by decide) (fun c23 => ?_) (fun c23 => ?_)
    · exfalso; omega
    · skip
      refine lv_aload_n hC.1 hC.2.1 dX2_placesThatTake_26 rfl (lv_at hl 1 rfl) ?_
      refine g_pat_placesTaking hC fi_X2_placesThatTake_X2 hK hX hq_q0 (wd9 hC 1 rfl) dX2_placesThatTake_27 ?_
      refine lv_iload_n hC.1 hC.2.1 dX2_placesThatTake_30 rfl (lv_at hl 0 rfl) ?_
      refine l_ptf hC hK hX hq_q0 (i := sgc c0) (by omega) dX2_placesThatTake_31 (v := (pd_ptf q0) (sgc c0)) rfl ?_
      refine lv_goto (tgt := 36) hC.1 hC.2.1 dX2_placesThatTake_32 (by decide) ?_
      refine r_lreturn hC hr hlk hX dX2_placesThatTake_36 ?_
      exact ⟨rfl, rfl⟩
  refine n_icmp_ne hC (a := c0) (b := 32) (tgt := 11) dX2_placesThatTake_3 (by decide) (by omega) (by decide) (fun c3 => ?_) (fun c3 => ?_)
  · skip
    refine lv_iload_n hC.1 hC.2.1 dX2_placesThatTake_11 rfl (lv_at hl 1 rfl) ?_
    refine lv_bipush (v := nI (97)) hC.1 hC.2.1 dX2_placesThatTake_12 (by decide +kernel) ?_
    refine n_sub hC (a := c0) (b := 97) dX2_placesThatTake_14 (by omega) ?_
    refine n_top (y := nI (sgc c0)) (by unfold sgc; first | rw [if_pos (by omega)] | rw [if_neg (by omega)]) ?_
    refine join15  _ _ ls  hX (lv_sub hl [0, 1] rfl)
  · skip
    refine lv_bipush (v := nI (26)) hC.1 hC.2.1 dX2_placesThatTake_6 (by decide +kernel) ?_
    refine lv_goto (tgt := 15) hC.1 hC.2.1 dX2_placesThatTake_8 (by decide) ?_
    refine n_top (y := nI (sgc c0)) (by unfold sgc; first | rw [if_pos (by omega)] | rw [if_neg (by omega)]) ?_
    refine join15  _ _ ls  hX (lv_sub hl [0, 1] rfl)
theorem fi_X2_countWild_X2 : ∀ w ∈ wsX20, w ∈ wsX2_countWild := by decide +kernel
theorem hd_X2_signsOf : yX2_signsOf.cls = RX2 ∧ yX2_signsOf.cls ≠ "java/lang/invoke/MethodHandle" ∧ yX2_signsOf.cls ≠ "java/lang/invoke/VarHandle" ∧ (parseMethodDescriptor yX2_signsOf.desc).map (fun d => d.parameters.length) = some 1 := by decide +kernel
set_option maxHeartbeats 4000000 in
set_option maxRecDepth 100000 in
theorem c_X2_countWild (l : Launch) (G : GX) (ad : Nat → Nat) (S : XS) (q0 : PatD) (jq0 : Nat) (hq_q0 : (x_pool S)[jq0]? = some q0) (hm0 : pd_cnt q0 ≤ 60) (hb0 : ∀ i, i < pd_cnt q0 → pd_plf q0 i < 134217728) : CtI l yX2_countWild wsX2_countWild { frames := 1, cells := 0, slots := 0, locals := 21 } G (wX G ad) (S) [.ref (pd_a q0)] (fun r S' => r = nI (cntW (pd_plf q0) (pd_cnt q0)) ∧ S' = S) 0 0 := by
  refine CtI.of (cc := cX2_countWild) (maxL := 3) (ret := some .int) (by decide +kernel) rfl (Nat.le_of_ble_eq_true rfl) ?_
  intro p e s m args below meth c ls A hC hr hlk hin hK hA hX hl
  have hl : lv_has ls 3 [(0, .ref (pd_a q0))] := hl
  have hcw := cntW_le (pd_plf q0)
  refine lv_iconst (v := nI (0)) hC.1 hC.2.1 dX2_countWild_0 rfl ?_
  refine lv_istore_n (lv' := [(1, .int (nI (0))), (0, .ref (pd_a q0))]) hC.1 hC.2.1 dX2_countWild_1 rfl hl (by decide) rfl (fun ls hl => ?_)
  refine lv_iconst (v := nI (0)) hC.1 hC.2.1 dX2_countWild_2 rfl ?_
  refine lv_istore_n (lv' := [(2, .int (nI (0))), (1, .int (nI (0))), (0, .ref (pd_a q0))]) hC.1 hC.2.1 dX2_countWild_3 rfl hl (by decide) rfl (fun ls hl => ?_)
  have loop4 : ∀ (n9 : Nat) (i : Nat), (i ≤ pd_cnt q0) → pd_cnt q0 - i < n9 → ∀ (H : Heap) (locs : List Loc) (ls : Array Slot), HH G A s.heap (wX G ad (S)) H locs → lv_has ls 3 [(2, .int (nI (i))), (1, .int (nI (cntW (pd_plf q0) i))), (0, .ref (pd_a q0))] → W p l e { frames := 1, cells := 0, slots := 0, locals := 21 } s m args below meth c H locs 0 0 (EndI G (wX G ad) A (fun r S' => r = nI (cntW (pd_plf q0) (pd_cnt q0)) ∧ S' = S) below args s 0 0) (F0 m 4 ls []) := by
    intro n9
    induction n9 with
    | zero => intro i hi hn9; exact absurd hn9 (Nat.not_lt_zero _)
    | succ n9 ih4 =>
      intro i hi hn9 H locs ls hX hl
      refine lv_iload_n hC.1 hC.2.1 dX2_countWild_4 rfl (lv_at hl 0 rfl) ?_
      refine lv_aload_n hC.1 hC.2.1 dX2_countWild_5 rfl (lv_at hl 2 rfl) ?_
      refine g_pat_placeCount hC fi_X2_countWild_X2 hK hX hq_q0 (wd9 hC 1 rfl) dX2_countWild_6 (v := pd_cnt q0) rfl ?_
      refine n_icmp_ge hC (a := i) (b := pd_cnt q0) (tgt := 31) dX2_countWild_9 (by decide) (by omega) (by omega) (fun c9 => ?_) (fun c9 => ?_)
      · skip
        refine lv_iload_n hC.1 hC.2.1 dX2_countWild_31 rfl (lv_at hl 1 rfl) ?_
        refine r_ireturn hC hr hlk hX dX2_countWild_32 ?_
        obtain rfl : i = pd_cnt q0 := by omega
        exact ⟨rfl, rfl⟩
      · skip
        have hbi := hb0 i (by omega)
        refine lv_aload_n hC.1 hC.2.1 dX2_countWild_12 rfl (lv_at hl 2 rfl) ?_
        refine lv_iload_n hC.1 hC.2.1 dX2_countWild_13 rfl (lv_at hl 0 rfl) ?_
        refine cv_I (As := [.int (nI (i))]) (rest := []) hC hK hA hX (c_X2_signsOf l G ad (S) q0 _ hq_q0 (i) (by omega)) (cwV 1 hC.2.2.2.2 gX2_countWild_X2_signsOf rfl rfl rfl hd_X2_signsOf ⟨Nat.le_of_ble_eq_true rfl, Nat.le_of_ble_eq_true rfl⟩) (ci := 2) (q := (RX2, TX2, 4)) rfl (wX_pa hq_q0) dX2_countWild_14 rfl hl.1 rfl (Nat.le_of_ble_eq_true rfl) ⟨(Nat.zero_le _), (Nat.zero_le _)⟩ (fun r9 S9 H locs hp9 hX => ?_)
        obtain ⟨rfl, hS9⟩ := hp9
        rw [hS9] at hX
        replace hX : HH G A s.heap (wX G ad (S)) H locs := hX
        refine lv_ldc (v := (134217727 : Int32)) hC.1 hC.2.1 hC.2.2.2.1 (wd9 hC 2 rfl) dX2_countWild_17 ?_
        refine n_top (y := nI 134217727) (by decide +kernel) ?_
        refine n_icmp_ne hC (a := pd_plf q0 i) (b := 134217727) (tgt := 25) dX2_countWild_19 (by decide) (by omega) (by decide) (fun c19 => ?_) (fun c19 => ?_)
        · skip
          refine lv_iinc (v := nI (i + 1)) (lv' := [(2, .int (nI (i + 1))), (1, .int (nI (cntW (pd_plf q0) i))), (0, .ref (pd_a q0))]) hC.1 hC.2.1 dX2_countWild_25 hl (k := 0) rfl (n_inc1 _) (by decide) rfl (fun ls hl => ?_)
          refine lv_goto (tgt := 4) hC.1 hC.2.1 dX2_countWild_28 (by decide) ?_
          refine ih4 (i + 1) ?_ ?_ _ _ ls hX (by first | (rw [cntW_t (by assumption)]; exact lv_sub hl [0, 1, 2] rfl) | (rw [cntW_f (by assumption)]; exact lv_sub hl [0, 1, 2] rfl))
          · omega
          · omega
        · skip
          refine lv_iinc (v := nI ((cntW (pd_plf q0) i) + 1)) (lv' := [(1, .int (nI ((cntW (pd_plf q0) i) + 1))), (2, .int (nI (i))), (0, .ref (pd_a q0))]) hC.1 hC.2.1 dX2_countWild_22 hl (k := 1) rfl (n_inc1 _) (by decide) rfl (fun ls hl => ?_)
          refine lv_iinc (v := nI (i + 1)) (lv' := [(2, .int (nI (i + 1))), (1, .int (nI ((cntW (pd_plf q0) i) + 1))), (0, .ref (pd_a q0))]) hC.1 hC.2.1 dX2_countWild_25 hl (k := 1) rfl (n_inc1 _) (by decide) rfl (fun ls hl => ?_)
          refine lv_goto (tgt := 4) hC.1 hC.2.1 dX2_countWild_28 (by decide) ?_
          refine ih4 (i + 1) ?_ ?_ _ _ ls hX (by first | (rw [cntW_t (by assumption)]; exact lv_sub hl [0, 1, 2] rfl) | (rw [cntW_f (by assumption)]; exact lv_sub hl [0, 1, 2] rfl))
          · omega
          · omega
  refine loop4 _ (0) ?_ (Nat.lt_succ_self _) _ _ ls hX (lv_sub hl [0, 1, 2] rfl)
  · omega
theorem fi_X4_columnMask_X2 : ∀ w ∈ wsX20, w ∈ wsX4_columnMask := by decide +kernel
set_option maxHeartbeats 4000000 in
set_option maxRecDepth 100000 in
theorem c_X4_columnMask (l : Launch) (G : GX) (ad : Nat → Nat) (S : XS) (q0 : PatD) (jq0 : Nat) (hq_q0 : (x_pool S)[jq0]? = some q0) : CtL l yX4_columnMask wsX4_columnMask { frames := 0, cells := 0, slots := 0, locals := 0 } G (wX G ad) (S) [.ref (pd_a q0)] (fun r S' => r = mskL (pd_cnt q0) ∧ S' = S) 0 0 := by
  refine CtL.of (cc := cX4_columnMask) (maxL := 1) (ret := some .long) (by decide +kernel) rfl (Nat.le_of_ble_eq_true rfl) ?_
  intro p e s m args below meth c ls A hC hr hlk hin hK hA hX hl
  have hl : lv_has ls 1 [(0, .ref (pd_a q0))] := hl
  refine lv_ldc2 (v := (2 : Int64)) hC.1 hC.2.1 hC.2.2.2.1 (wd9 hC 1 rfl) dX4_columnMask_0 ?_
  refine lv_aload_n hC.1 hC.2.1 dX4_columnMask_3 rfl (lv_at hl 0 rfl) ?_
  refine gN_pat_placeCount hC fi_X4_columnMask_X2 hK hX hq_q0 (hnf hK 11 rfl) dX4_columnMask_4 (v := pd_cnt q0) rfl ?_
  refine lv_lshl hC.1 hC.2.1 dX4_columnMask_7 rfl ?_
  refine lv_lconst (v := lN 1) hC.1 hC.2.1 dX4_columnMask_8 rfl ?_
  refine lv_lsub hC.1 hC.2.1 dX4_columnMask_9 ?_
  refine r_lreturn hC hr hlk hX dX4_columnMask_10 ?_
  exact ⟨rfl, rfl⟩
theorem fi_X4_openColumns_X5 : ∀ w ∈ wsX50, w ∈ wsX4_openColumns := by decide +kernel
theorem fi_X4_openColumns_X4 : ∀ w ∈ wsX40, w ∈ wsX4_openColumns := by decide +kernel
theorem hd_X4_columnMask_s : yX4_columnMask.cls ≠ "java/lang/invoke/MethodHandle" ∧ yX4_columnMask.cls ≠ "java/lang/invoke/VarHandle" ∧ (parseMethodDescriptor yX4_columnMask.desc).map (fun d => d.parameters.length) = some 1 := by decide +kernel
set_option maxHeartbeats 4000000 in
set_option maxRecDepth 100000 in
theorem c_X4_openColumns (l : Launch) (G : GX) (ad : Nat → Nat) (S : XS) (q0 : PatD) (jq0 : Nat) (hq_q0 : (x_pool S)[jq0]? = some q0) (hm0 : pd_cnt q0 ≤ 60) (hk0 : st_most (x_now S) ≤ 4) : CtV l yX4_openColumns wsX4_openColumns { frames := 1, cells := 0, slots := 0, locals := 20 } G (wX G ad) (S) [.ref (ad 24), .ref (ad 0), .ref (pd_a q0)] (fun S' => ∃ f, S' = u_cols S f ∧ colOK f (dcol (tkX (pd_ptf q0) (st_text (x_now S))) (mayB (pd_bnd q0) (st_text (x_now S))) 0) (pd_cnt q0) (st_most (x_now S))) 0 0 := by
  refine CtV.of (cc := cX4_openColumns) (maxL := 6) (ret := none) (by decide +kernel) rfl (Nat.le_of_ble_eq_true rfl) ?_
  intro p e s m args below meth c ls A hC hr hlk hin hK hA hX hl
  have hl : lv_has ls 6 [(0, .ref (ad 24)), (1, .ref (ad 0)), (2, .ref (pd_a q0))] := hl
  refine lv_lconst (v := lN 1) hC.1 hC.2.1 dX4_openColumns_0 rfl ?_
  refine lv_lstore_n (lv' := [(3, .long (lN 1)), (0, .ref (ad 24)), (1, .ref (ad 0)), (2, .ref (pd_a q0))]) hC.1 hC.2.1 dX4_openColumns_1 rfl hl (by decide) rfl (fun ls hl => ?_)
  refine lv_iconst (v := nI (0)) hC.1 hC.2.1 dX4_openColumns_2 rfl ?_
  refine lv_istore (lv' := [(5, .int (nI (0))), (3, .long (lN 1)), (0, .ref (ad 24)), (1, .ref (ad 0)), (2, .ref (pd_a q0))]) hC.1 hC.2.1 dX4_openColumns_3 hl (by decide) rfl (fun ls hl => ?_)
  have loop5 : ∀ (n9 : Nat) (i : Nat) (f : Nat → Int64), (i ≤ st_most (x_now S) + 1) → (∀ j, j < i → f j = lN (2 ^ (j + 1) - 1) &&& mskL (pd_cnt q0)) → st_most (x_now S) + 1 - i < n9 → ∀ (H : Heap) (locs : List Loc) (ls : Array Slot), HH G A s.heap (wX G ad (u_cols (S) (f))) H locs → lv_has ls 6 [(5, .int (nI (i))), (3, .long (lN (2 ^ (i + 1) - 1))), (0, .ref (ad 24)), (1, .ref (ad 0)), (2, .ref (pd_a q0))] → W p l e { frames := 1, cells := 0, slots := 0, locals := 20 } s m args below meth c H locs 0 0 (EndV G (wX G ad) A (fun S' => ∃ f, S' = u_cols S f ∧ colOK f (dcol (tkX (pd_ptf q0) (st_text (x_now S))) (mayB (pd_bnd q0) (st_text (x_now S))) 0) (pd_cnt q0) (st_most (x_now S))) below args s 0 0) (F0 m 5 ls []) := by
    intro n9
    induction n9 with
    | zero => intro i f hi hf hn9; exact absurd hn9 (Nat.not_lt_zero _)
    | succ n9 ih5 =>
      intro i f hi hf hn9 H locs ls hX hl
      refine lv_iload hC.1 hC.2.1 dX4_openColumns_5 (lv_at hl 0 rfl) ?_
      refine lv_iconst (v := nI (4)) hC.1 hC.2.1 dX4_openColumns_7 rfl ?_
      refine n_icmp_gt hC (a := i) (b := 4) (tgt := 45) dX4_openColumns_8 (by decide) (by omega) (by decide) (fun c8 => ?_) (fun c8 => ?_)
      · skip
        refine r_return hC hr hlk hX dX4_openColumns_45 ?_
        exact ⟨f, rfl, colOK_open hm0 hk0 (fun j hj => hf j (by omega))⟩
      · skip
        refine lv_iload hC.1 hC.2.1 dX4_openColumns_11 (lv_at hl 0 rfl) ?_
        refine lv_aload_n hC.1 hC.2.1 dX4_openColumns_13 rfl (lv_at hl 3 rfl) ?_
        refine gN_most (k := 0) (by decide) hC fi_X4_openColumns_X5 hK hX (hnf hK 12 rfl) dX4_openColumns_14 (v := st_most (x_now S)) rfl ?_
        refine n_icmp_gt hC (a := i) (b := st_most (x_now S)) (tgt := 45) dX4_openColumns_17 (by decide) (by omega) (by omega) (fun c17 => ?_) (fun c17 => ?_)
        · skip
          refine r_return hC hr hlk hX dX4_openColumns_45 ?_
          exact ⟨f, rfl, colOK_open hm0 hk0 (fun j hj => hf j (by omega))⟩
        · skip
          refine lv_aload_n hC.1 hC.2.1 dX4_openColumns_20 rfl (lv_at hl 2 rfl) ?_
          refine g_search_columns hC fi_X4_openColumns_X4 hK hX (wd9 hC 1 rfl) dX4_openColumns_21 ?_
          refine lv_iload hC.1 hC.2.1 dX4_openColumns_24 (lv_at hl 0 rfl) ?_
          refine lv_lload_n hC.1 hC.2.1 dX4_openColumns_26 rfl (lv_at hl 1 rfl) ?_
          refine lv_aload_n hC.1 hC.2.1 dX4_openColumns_27 rfl (lv_at hl 4 rfl) ?_
          refine cs_L (As := [.ref (pd_a q0)]) (rest := [.long (lN (2 ^ (i + 1) - 1)), .int (nI (i)), .ref (ad 25)]) hC hK hA hX (c_X4_columnMask l G ad (u_cols (S) (f)) q0 _ hq_q0) (va_cwS 1 hC.2.2.2.2 gX4_openColumns_X4_columnMask rfl rfl rfl hd_X4_columnMask_s ⟨Nat.le_of_ble_eq_true rfl, Nat.le_of_ble_eq_true rfl⟩) dX4_openColumns_28 rfl hl.1 rfl (Nat.le_of_ble_eq_true rfl) ⟨(Nat.zero_le _), (Nat.zero_le _)⟩ (fun r9 S9 H locs hp9 hX => ?_)
          obtain ⟨rfl, hS9⟩ := hp9
          rw [hS9] at hX
          replace hX : HH G A s.heap (wX G ad (u_cols (S) (f))) H locs := hX
          refine lv_land hC.1 hC.2.1 dX4_openColumns_31 ?_
          refine s_cols hC hK hX (i := i) (v := (lN (2 ^ (i + 1) - 1)) &&& (mskL (pd_cnt q0))) (by omega) dX4_openColumns_32 (fun H locs hX => ?_)
          replace hX : HH G A s.heap (wX G ad (u_cols (S) (vp_updL (f) (i) ((lN (2 ^ (i + 1) - 1)) &&& (mskL (pd_cnt q0)))))) H locs := hX
          refine lv_lload_n hC.1 hC.2.1 dX4_openColumns_33 rfl (lv_at hl 1 rfl) ?_
          refine lv_iconst (v := nI (1)) hC.1 hC.2.1 dX4_openColumns_34 rfl ?_
          refine lv_lshl hC.1 hC.2.1 dX4_openColumns_35 rfl ?_
          refine lv_lconst (v := lN 1) hC.1 hC.2.1 dX4_openColumns_36 rfl ?_
          refine lv_lor hC.1 hC.2.1 dX4_openColumns_37 ?_
          refine n_topl (y := lN (2 ^ (i + 1 + 1) - 1)) (colO_s i (by omega)) ?_
          refine lv_lstore_n (lv' := [(3, .long (lN (2 ^ (i + 1 + 1) - 1))), (5, .int (nI (i))), (0, .ref (ad 24)), (1, .ref (ad 0)), (2, .ref (pd_a q0))]) hC.1 hC.2.1 dX4_openColumns_38 rfl hl (by decide) rfl (fun ls hl => ?_)
          refine lv_iinc (v := nI (i + 1)) (lv' := [(5, .int (nI (i + 1))), (3, .long (lN (2 ^ (i + 1 + 1) - 1))), (0, .ref (ad 24)), (1, .ref (ad 0)), (2, .ref (pd_a q0))]) hC.1 hC.2.1 dX4_openColumns_39 hl (k := 1) rfl (n_inc1 _) (by decide) rfl (fun ls hl => ?_)
          refine lv_goto (tgt := 5) hC.1 hC.2.1 dX4_openColumns_42 (by decide) ?_
          refine ih5 (i + 1) (vp_updL (f) (i) ((lN (2 ^ (i + 1) - 1)) &&& (mskL (pd_cnt q0)))) ?_ ?_ ?_ _ _ ls hX (lv_sub hl [0, 1, 2, 3, 4] rfl)
          · omega
          · exact fun j hj => by
              rcases Nat.lt_succ_iff_lt_or_eq.mp hj with h | h
              · rw [vp_updL_ne (Nat.ne_of_lt h)]; exact hf j h
              · subst h; exact vp_updL_self
          · omega
  refine loop5 _ (0) (x_cols S) ?_ ?_ (Nat.lt_succ_self _) _ _ ls hX (lv_sub hl [0, 1, 2, 3, 4] rfl)
  · omega
  · exact fun j hj => absurd hj (Nat.not_lt_zero _)
theorem hd_X2_placesThatTake : yX2_placesThatTake.cls = RX2 ∧ yX2_placesThatTake.cls ≠ "java/lang/invoke/MethodHandle" ∧ yX2_placesThatTake.cls ≠ "java/lang/invoke/VarHandle" ∧ (parseMethodDescriptor yX2_placesThatTake.desc).map (fun d => d.parameters.length) = some 1 := by decide +kernel
theorem hd_X5_mayBegin : yX5_mayBegin.cls = RX5 ∧ yX5_mayBegin.cls ≠ "java/lang/invoke/MethodHandle" ∧ yX5_mayBegin.cls ≠ "java/lang/invoke/VarHandle" ∧ (parseMethodDescriptor yX5_mayBegin.desc).map (fun d => d.parameters.length) = some 2 := by decide +kernel
theorem fi_X4_stepColumns_X5 : ∀ w ∈ wsX50, w ∈ wsX4_stepColumns := by decide +kernel
theorem fi_X4_stepColumns_X4 : ∀ w ∈ wsX40, w ∈ wsX4_stepColumns := by decide +kernel
set_option maxHeartbeats 4000000 in
set_option maxRecDepth 100000 in
theorem c_X4_stepColumns (l : Launch) (G : GX) (ad : Nat → Nat) (S : XS) (q0 : PatD) (jq0 : Nat) (hq_q0 : (x_pool S)[jq0]? = some q0) (hm0 : pd_cnt q0 ≤ 60) (hk0 : st_most (x_now S) ≤ 4) (hT0 : okT (st_text (x_now S)) (st_len (x_now S))) (hn0 : st_len (x_now S) ≤ 120) (e0 : Nat) (he0 : e0 < st_len (x_now S)) (hc0 : colOK (x_cols S) (dcol (tkX (pd_ptf q0) (st_text (x_now S))) (mayB (pd_bnd q0) (st_text (x_now S))) e0) (pd_cnt q0) (st_most (x_now S))) : CtV l yX4_stepColumns wsX4_stepColumns { frames := 2, cells := 0, slots := 0, locals := 43 } G (wX G ad) (S) [.ref (ad 24), .ref (ad 0), .ref (pd_a q0), .int (nI (e0 + 1))] (fun S' => ∃ f, S' = u_cols S f ∧ colOK f (dcol (tkX (pd_ptf q0) (st_text (x_now S))) (mayB (pd_bnd q0) (st_text (x_now S))) (e0 + 1)) (pd_cnt q0) (st_most (x_now S))) 0 0 := by
  refine CtV.of (cc := cX4_stepColumns) (maxL := 23) (ret := none) (by decide +kernel) rfl (Nat.le_of_ble_eq_true rfl) ?_
  intro p e s m args below meth c ls A hC hr hlk hin hK hA hX hl
  have hl : lv_has ls 23 [(0, .ref (ad 24)), (1, .ref (ad 0)), (2, .ref (pd_a q0)), (3, .int (nI (e0 + 1)))] := hl
  have hT1 := hT0.1
  have hT2 := hT0.2 e0 he0
  refine lv_aload_n hC.1 hC.2.1 dX4_stepColumns_0 rfl (lv_at hl 2 rfl) ?_
  refine lv_aload_n hC.1 hC.2.1 dX4_stepColumns_1 rfl (lv_at hl 1 rfl) ?_
  refine lv_iload_n hC.1 hC.2.1 dX4_stepColumns_2 rfl (lv_at hl 3 rfl) ?_
  refine lv_iconst (v := nI (1)) hC.1 hC.2.1 dX4_stepColumns_3 rfl ?_
  refine n_sub hC (a := e0 + 1) (b := 1) dX4_stepColumns_4 (by omega) ?_
  refine n_top (y := nI (e0)) rfl ?_
  refine cv_I (As := [.int (nI (e0))]) (rest := [.ref (pd_a q0)]) hC hK hA hX (c_X5_signAt l G ad (S) (e0) (by omega) (hT1 _)) (cwV 1 hC.2.2.2.2 gX4_stepColumns_X5_signAt rfl rfl rfl hd_X5_signAt ⟨Nat.le_of_ble_eq_true rfl, Nat.le_of_ble_eq_true rfl⟩) (ci := 5) (q := (RX5, TX5, 5)) rfl (q0 := 0) rfl dX4_stepColumns_5 rfl hl.1 rfl (Nat.le_of_ble_eq_true rfl) ⟨(Nat.zero_le _), (Nat.zero_le _)⟩ (fun r9 S9 H locs hp9 hX => ?_)
  obtain ⟨rfl, hS9⟩ := hp9
  rw [hS9] at hX
  replace hX : HH G A s.heap (wX G ad (S)) H locs := hX
  refine cv_L (As := [.int (nI ((st_text (x_now S)) e0))]) (rest := []) hC hK hA hX (c_X2_placesThatTake l G ad (S) q0 _ hq_q0 ((st_text (x_now S)) e0) hT2) (cwV 1 hC.2.2.2.2 gX4_stepColumns_X2_placesThatTake rfl rfl rfl hd_X2_placesThatTake ⟨Nat.le_of_ble_eq_true rfl, Nat.le_of_ble_eq_true rfl⟩) (ci := 2) (q := (RX2, TX2, 4)) rfl (wX_pa hq_q0) dX4_stepColumns_8 rfl hl.1 rfl (Nat.le_of_ble_eq_true rfl) ⟨(Nat.zero_le _), (Nat.zero_le _)⟩ (fun r9 S9 H locs hp9 hX => ?_)
  obtain ⟨rfl, hS9⟩ := hp9
  rw [hS9] at hX
  replace hX : HH G A s.heap (wX G ad (S)) H locs := hX
  refine lv_lstore (lv' := [(4, .long (pd_ptf q0 (sgc ((st_text (x_now S)) e0)))), (0, .ref (ad 24)), (1, .ref (ad 0)), (2, .ref (pd_a q0)), (3, .int (nI (e0 + 1)))]) hC.1 hC.2.1 dX4_stepColumns_11 hl (by decide) rfl (fun ls hl => ?_)
  refine lv_aload_n hC.1 hC.2.1 dX4_stepColumns_13 rfl (lv_at hl 2 rfl) ?_
  refine lv_aload_n hC.1 hC.2.1 dX4_stepColumns_14 rfl (lv_at hl 3 rfl) ?_
  refine lv_iload_n hC.1 hC.2.1 dX4_stepColumns_15 rfl (lv_at hl 4 rfl) ?_
  refine cv_I (As := [.ref (pd_a q0), .int (nI (e0 + 1))]) (rest := []) hC hK hA hX (c_X5_mayBegin l G ad (S) q0 _ hq_q0 (e0 + 1) (by omega) (by assumption)) (cwV 2 hC.2.2.2.2 gX4_stepColumns_X5_mayBegin rfl rfl rfl hd_X5_mayBegin ⟨Nat.le_of_ble_eq_true rfl, Nat.le_of_ble_eq_true rfl⟩) (ci := 5) (q := (RX5, TX5, 5)) rfl (q0 := 0) rfl dX4_stepColumns_16 rfl hl.1 rfl (Nat.le_of_ble_eq_true rfl) ⟨(Nat.zero_le _), (Nat.zero_le _)⟩ (fun r9 S9 H locs hp9 hX => ?_)
  obtain ⟨rfl, hS9⟩ := hp9
  rw [hS9] at hX
  replace hX : HH G A s.heap (wX G ad (S)) H locs := hX
  have join27 : ∀ (H : Heap) (locs : List Loc) (ls : Array Slot), HH G A s.heap (wX G ad (S)) H locs → lv_has ls 23 [(4, .long (pd_ptf q0 (sgc ((st_text (x_now S)) e0)))), (0, .ref (ad 24)), (1, .ref (ad 0)), (2, .ref (pd_a q0)), (3, .int (nI (e0 + 1)))] → W p l e { frames := 2, cells := 0, slots := 0, locals := 43 } s m args below meth c H locs 0 0 (EndV G (wX G ad) A (fun S' => ∃ f, S' = u_cols S f ∧ colOK f (dcol (tkX (pd_ptf q0) (st_text (x_now S))) (mayB (pd_bnd q0) (st_text (x_now S))) (e0 + 1)) (pd_cnt q0) (st_most (x_now S))) below args s 0 0) (F0 m 27 ls [.long (if (mayB (pd_bnd q0) (st_text (x_now S))) (e0 + 1) = true then lN 1 else lN 0)]) := by
    intro  H locs ls  hX hl
    refine lv_lstore (lv' := [(6, .long (if (mayB (pd_bnd q0) (st_text (x_now S))) (e0 + 1) = true then lN 1 else lN 0)), (4, .long (pd_ptf q0 (sgc ((st_text (x_now S)) e0)))), (0, .ref (ad 24)), (1, .ref (ad 0)), (2, .ref (pd_a q0)), (3, .int (nI (e0 + 1)))]) hC.1 hC.2.1 dX4_stepColumns_27 hl (by decide) rfl (fun ls hl => ?_)
    refine lv_aload_n hC.1 hC.2.1 dX4_stepColumns_29 rfl (lv_at hl 4 rfl) ?_
    refine cs_L (As := [.ref (pd_a q0)]) (rest := []) hC hK hA hX (c_X4_columnMask l G ad (S) q0 _ hq_q0) (va_cwS 1 hC.2.2.2.2 gX4_stepColumns_X4_columnMask rfl rfl rfl hd_X4_columnMask_s ⟨Nat.le_of_ble_eq_true rfl, Nat.le_of_ble_eq_true rfl⟩) dX4_stepColumns_30 rfl hl.1 rfl (Nat.le_of_ble_eq_true rfl) ⟨(Nat.zero_le _), (Nat.zero_le _)⟩ (fun r9 S9 H locs hp9 hX => ?_)
    obtain ⟨rfl, hS9⟩ := hp9
    rw [hS9] at hX
    replace hX : HH G A s.heap (wX G ad (S)) H locs := hX
    refine lv_lstore (lv' := [(8, .long (mskL (pd_cnt q0))), (6, .long (if (mayB (pd_bnd q0) (st_text (x_now S))) (e0 + 1) = true then lN 1 else lN 0)), (4, .long (pd_ptf q0 (sgc ((st_text (x_now S)) e0)))), (0, .ref (ad 24)), (1, .ref (ad 0)), (2, .ref (pd_a q0)), (3, .int (nI (e0 + 1)))]) hC.1 hC.2.1 dX4_stepColumns_33 hl (by decide) rfl (fun ls hl => ?_)
    refine lv_lconst (v := lN 0) hC.1 hC.2.1 dX4_stepColumns_35 rfl ?_
    refine lv_lstore (lv' := [(10, .long (lN 0)), (8, .long (mskL (pd_cnt q0))), (6, .long (if (mayB (pd_bnd q0) (st_text (x_now S))) (e0 + 1) = true then lN 1 else lN 0)), (4, .long (pd_ptf q0 (sgc ((st_text (x_now S)) e0)))), (0, .ref (ad 24)), (1, .ref (ad 0)), (2, .ref (pd_a q0)), (3, .int (nI (e0 + 1)))]) hC.1 hC.2.1 dX4_stepColumns_36 hl (by decide) rfl (fun ls hl => ?_)
    refine lv_lconst (v := lN 0) hC.1 hC.2.1 dX4_stepColumns_38 rfl ?_
    refine lv_lstore (lv' := [(12, .long (lN 0)), (10, .long (lN 0)), (8, .long (mskL (pd_cnt q0))), (6, .long (if (mayB (pd_bnd q0) (st_text (x_now S))) (e0 + 1) = true then lN 1 else lN 0)), (4, .long (pd_ptf q0 (sgc ((st_text (x_now S)) e0)))), (0, .ref (ad 24)), (1, .ref (ad 0)), (2, .ref (pd_a q0)), (3, .int (nI (e0 + 1)))]) hC.1 hC.2.1 dX4_stepColumns_39 hl (by decide) rfl (fun ls hl => ?_)
    refine lv_iconst (v := nI (0)) hC.1 hC.2.1 dX4_stepColumns_41 rfl ?_
    refine lv_istore (lv' := [(14, .int (nI (0))), (12, .long (lN 0)), (10, .long (lN 0)), (8, .long (mskL (pd_cnt q0))), (6, .long (if (mayB (pd_bnd q0) (st_text (x_now S))) (e0 + 1) = true then lN 1 else lN 0)), (4, .long (pd_ptf q0 (sgc ((st_text (x_now S)) e0)))), (0, .ref (ad 24)), (1, .ref (ad 0)), (2, .ref (pd_a q0)), (3, .int (nI (e0 + 1)))]) hC.1 hC.2.1 dX4_stepColumns_42 hl (by decide) rfl (fun ls hl => ?_)
    have loop44 : ∀ (n9 : Nat) (i : Nat) (f : Nat → Int64) (fb : Int64) (fn : Int64), (i ≤ st_most (x_now S) + 1) → (∀ j, i ≤ j → f j = x_cols S j) → (∀ j, j < i → ∀ b, b < 64 → lbit (f j) b = decide (b ≤ pd_cnt q0 ∧ dcol (tkX (pd_ptf q0) (st_text (x_now S))) (mayB (pd_bnd q0) (st_text (x_now S))) (e0 + 1) b ≤ j)) → (∀ b, b < 64 → lbit fb b = decide (0 < i ∧ b ≤ pd_cnt q0 ∧ dcol (tkX (pd_ptf q0) (st_text (x_now S))) (mayB (pd_bnd q0) (st_text (x_now S))) e0 b ≤ i - 1)) → (∀ b, b < 64 → lbit fn b = decide (0 < i ∧ b ≤ pd_cnt q0 ∧ dcol (tkX (pd_ptf q0) (st_text (x_now S))) (mayB (pd_bnd q0) (st_text (x_now S))) (e0 + 1) b ≤ i - 1)) → st_most (x_now S) + 1 - i < n9 → ∀ (H : Heap) (locs : List Loc) (ls : Array Slot), HH G A s.heap (wX G ad (u_cols (S) (f))) H locs → lv_has ls 23 [(14, .int (nI (i))), (12, .long (fn)), (10, .long (fb)), (8, .long (mskL (pd_cnt q0))), (6, .long (if (mayB (pd_bnd q0) (st_text (x_now S))) (e0 + 1) = true then lN 1 else lN 0)), (4, .long (pd_ptf q0 (sgc ((st_text (x_now S)) e0)))), (0, .ref (ad 24)), (1, .ref (ad 0)), (2, .ref (pd_a q0)), (3, .int (nI (e0 + 1)))] → W p l e { frames := 2, cells := 0, slots := 0, locals := 43 } s m args below meth c H locs 0 0 (EndV G (wX G ad) A (fun S' => ∃ f, S' = u_cols S f ∧ colOK f (dcol (tkX (pd_ptf q0) (st_text (x_now S))) (mayB (pd_bnd q0) (st_text (x_now S))) (e0 + 1)) (pd_cnt q0) (st_most (x_now S))) below args s 0 0) (F0 m 44 ls []) := by
      intro n9
      induction n9 with
      | zero => intro i f fb fn hi hf1 hf2 hfb hfn hn9; exact absurd hn9 (Nat.not_lt_zero _)
      | succ n9 ih44 =>
        intro i f fb fn hi hf1 hf2 hfb hfn hn9 H locs ls hX hl
        refine lv_iload hC.1 hC.2.1 dX4_stepColumns_44 (lv_at hl 0 rfl) ?_
        refine lv_iconst (v := nI (4)) hC.1 hC.2.1 dX4_stepColumns_46 rfl ?_
        refine n_icmp_gt hC (a := i) (b := 4) (tgt := 132) dX4_stepColumns_47 (by decide) (by omega) (by decide) (fun c47 => ?_) (fun c47 => ?_)
        · skip
          refine r_return hC hr hlk hX dX4_stepColumns_132 ?_
          exact ⟨f, rfl, fun j hj b hb => hf2 j (by omega) b hb⟩
        · skip
          refine lv_iload hC.1 hC.2.1 dX4_stepColumns_50 (lv_at hl 0 rfl) ?_
          refine lv_aload_n hC.1 hC.2.1 dX4_stepColumns_52 rfl (lv_at hl 7 rfl) ?_
          refine gN_most (k := 0) (by decide) hC fi_X4_stepColumns_X5 hK hX (hnf hK 12 rfl) dX4_stepColumns_53 (v := st_most (x_now S)) rfl ?_
          refine n_icmp_gt hC (a := i) (b := st_most (x_now S)) (tgt := 132) dX4_stepColumns_56 (by decide) (by omega) (by omega) (fun c56 => ?_) (fun c56 => ?_)
          · skip
            refine r_return hC hr hlk hX dX4_stepColumns_132 ?_
            exact ⟨f, rfl, fun j hj b hb => hf2 j (by omega) b hb⟩
          · skip
            refine lv_aload_n hC.1 hC.2.1 dX4_stepColumns_59 rfl (lv_at hl 6 rfl) ?_
            refine g_search_columns hC fi_X4_stepColumns_X4 hK hX (wd9 hC 1 rfl) dX4_stepColumns_60 ?_
            refine lv_iload hC.1 hC.2.1 dX4_stepColumns_63 (lv_at hl 0 rfl) ?_
            refine l_cols hC hK hX (i := i) (by omega) dX4_stepColumns_65 (v := f i) rfl ?_
            refine lv_lstore (lv' := [(15, .long (f i)), (14, .int (nI (i))), (12, .long (fn)), (10, .long (fb)), (8, .long (mskL (pd_cnt q0))), (6, .long (if (mayB (pd_bnd q0) (st_text (x_now S))) (e0 + 1) = true then lN 1 else lN 0)), (4, .long (pd_ptf q0 (sgc ((st_text (x_now S)) e0)))), (0, .ref (ad 24)), (1, .ref (ad 0)), (2, .ref (pd_a q0)), (3, .int (nI (e0 + 1)))]) hC.1 hC.2.1 dX4_stepColumns_66 hl (by decide) rfl (fun ls hl => ?_)
            refine lv_lload hC.1 hC.2.1 dX4_stepColumns_68 (lv_at hl 0 rfl) ?_
            refine lv_lload hC.1 hC.2.1 dX4_stepColumns_70 (lv_at hl 6 rfl) ?_
            refine lv_land hC.1 hC.2.1 dX4_stepColumns_72 ?_
            refine lv_iconst (v := nI (1)) hC.1 hC.2.1 dX4_stepColumns_73 rfl ?_
            refine lv_lshl hC.1 hC.2.1 dX4_stepColumns_74 rfl ?_
            refine lv_lstore (lv' := [(17, .long (((f i) &&& (pd_ptf q0 (sgc ((st_text (x_now S)) e0)))) <<< ((nI (1)).toInt64 &&& 63))), (15, .long (f i)), (14, .int (nI (i))), (12, .long (fn)), (10, .long (fb)), (8, .long (mskL (pd_cnt q0))), (6, .long (if (mayB (pd_bnd q0) (st_text (x_now S))) (e0 + 1) = true then lN 1 else lN 0)), (4, .long (pd_ptf q0 (sgc ((st_text (x_now S)) e0)))), (0, .ref (ad 24)), (1, .ref (ad 0)), (2, .ref (pd_a q0)), (3, .int (nI (e0 + 1)))]) hC.1 hC.2.1 dX4_stepColumns_75 hl (by decide) rfl (fun ls hl => ?_)
            refine lv_lload hC.1 hC.2.1 dX4_stepColumns_77 (lv_at hl 4 rfl) ?_
            refine lv_iconst (v := nI (1)) hC.1 hC.2.1 dX4_stepColumns_79 rfl ?_
            refine lv_lshl hC.1 hC.2.1 dX4_stepColumns_80 rfl ?_
            refine lv_lstore (lv' := [(19, .long (fb <<< ((nI (1)).toInt64 &&& 63))), (17, .long (((f i) &&& (pd_ptf q0 (sgc ((st_text (x_now S)) e0)))) <<< ((nI (1)).toInt64 &&& 63))), (15, .long (f i)), (14, .int (nI (i))), (12, .long (fn)), (10, .long (fb)), (8, .long (mskL (pd_cnt q0))), (6, .long (if (mayB (pd_bnd q0) (st_text (x_now S))) (e0 + 1) = true then lN 1 else lN 0)), (4, .long (pd_ptf q0 (sgc ((st_text (x_now S)) e0)))), (0, .ref (ad 24)), (1, .ref (ad 0)), (2, .ref (pd_a q0)), (3, .int (nI (e0 + 1)))]) hC.1 hC.2.1 dX4_stepColumns_81 hl (by decide) rfl (fun ls hl => ?_)
            refine lv_lload hC.1 hC.2.1 dX4_stepColumns_83 (lv_at hl 4 rfl) ?_
            refine lv_iconst (v := nI (1)) hC.1 hC.2.1 dX4_stepColumns_85 rfl ?_
            refine lv_lshl hC.1 hC.2.1 dX4_stepColumns_86 rfl ?_
            refine lv_lstore (lv' := [(21, .long (fn <<< ((nI (1)).toInt64 &&& 63))), (19, .long (fb <<< ((nI (1)).toInt64 &&& 63))), (17, .long (((f i) &&& (pd_ptf q0 (sgc ((st_text (x_now S)) e0)))) <<< ((nI (1)).toInt64 &&& 63))), (15, .long (f i)), (14, .int (nI (i))), (12, .long (fn)), (10, .long (fb)), (8, .long (mskL (pd_cnt q0))), (6, .long (if (mayB (pd_bnd q0) (st_text (x_now S))) (e0 + 1) = true then lN 1 else lN 0)), (4, .long (pd_ptf q0 (sgc ((st_text (x_now S)) e0)))), (0, .ref (ad 24)), (1, .ref (ad 0)), (2, .ref (pd_a q0)), (3, .int (nI (e0 + 1)))]) hC.1 hC.2.1 dX4_stepColumns_87 hl (by decide) rfl (fun ls hl => ?_)
            refine lv_aload_n hC.1 hC.2.1 dX4_stepColumns_89 rfl (lv_at hl 10 rfl) ?_
            refine g_search_columns hC fi_X4_stepColumns_X4 hK hX (wd9 hC 1 rfl) dX4_stepColumns_90 ?_
            refine lv_iload hC.1 hC.2.1 dX4_stepColumns_93 (lv_at hl 4 rfl) ?_
            refine lv_lload hC.1 hC.2.1 dX4_stepColumns_95 (lv_at hl 8 rfl) ?_
            refine lv_lload hC.1 hC.2.1 dX4_stepColumns_97 (lv_at hl 2 rfl) ?_
            refine lv_lor hC.1 hC.2.1 dX4_stepColumns_99 ?_
            refine lv_lload hC.1 hC.2.1 dX4_stepColumns_100 (lv_at hl 1 rfl) ?_
            refine lv_lor hC.1 hC.2.1 dX4_stepColumns_102 ?_
            refine lv_lload hC.1 hC.2.1 dX4_stepColumns_103 (lv_at hl 6 rfl) ?_
            refine lv_lor hC.1 hC.2.1 dX4_stepColumns_105 ?_
            refine lv_lload hC.1 hC.2.1 dX4_stepColumns_106 (lv_at hl 0 rfl) ?_
            refine lv_lor hC.1 hC.2.1 dX4_stepColumns_108 ?_
            refine lv_lload hC.1 hC.2.1 dX4_stepColumns_109 (lv_at hl 7 rfl) ?_
            refine lv_land hC.1 hC.2.1 dX4_stepColumns_111 ?_
            refine s_cols hC hK hX (i := i) (v := (((((if (mayB (pd_bnd q0) (st_text (x_now S))) (e0 + 1) = true then lN 1 else lN 0) ||| (((f i) &&& (pd_ptf q0 (sgc ((st_text (x_now S)) e0)))) <<< ((nI (1)).toInt64 &&& 63))) ||| (fb <<< ((nI (1)).toInt64 &&& 63))) ||| fb) ||| (fn <<< ((nI (1)).toInt64 &&& 63))) &&& (mskL (pd_cnt q0))) (by omega) dX4_stepColumns_112 (fun H locs hX => ?_)
            replace hX : HH G A s.heap (wX G ad (u_cols (S) (vp_updL (f) (i) ((((((if (mayB (pd_bnd q0) (st_text (x_now S))) (e0 + 1) = true then lN 1 else lN 0) ||| (((f i) &&& (pd_ptf q0 (sgc ((st_text (x_now S)) e0)))) <<< ((nI (1)).toInt64 &&& 63))) ||| (fb <<< ((nI (1)).toInt64 &&& 63))) ||| fb) ||| (fn <<< ((nI (1)).toInt64 &&& 63))) &&& (mskL (pd_cnt q0)))))) H locs := hX
            refine lv_lload hC.1 hC.2.1 dX4_stepColumns_113 (lv_at hl 3 rfl) ?_
            refine lv_lstore (lv' := [(10, .long (f i)), (21, .long (fn <<< ((nI (1)).toInt64 &&& 63))), (19, .long (fb <<< ((nI (1)).toInt64 &&& 63))), (17, .long (((f i) &&& (pd_ptf q0 (sgc ((st_text (x_now S)) e0)))) <<< ((nI (1)).toInt64 &&& 63))), (15, .long (f i)), (14, .int (nI (i))), (12, .long (fn)), (8, .long (mskL (pd_cnt q0))), (6, .long (if (mayB (pd_bnd q0) (st_text (x_now S))) (e0 + 1) = true then lN 1 else lN 0)), (4, .long (pd_ptf q0 (sgc ((st_text (x_now S)) e0)))), (0, .ref (ad 24)), (1, .ref (ad 0)), (2, .ref (pd_a q0)), (3, .int (nI (e0 + 1)))]) hC.1 hC.2.1 dX4_stepColumns_115 hl (by decide) rfl (fun ls hl => ?_)
            refine lv_aload_n hC.1 hC.2.1 dX4_stepColumns_117 rfl (lv_at hl 10 rfl) ?_
            refine g_search_columns hC fi_X4_stepColumns_X4 hK hX (wd9 hC 1 rfl) dX4_stepColumns_118 ?_
            refine lv_iload hC.1 hC.2.1 dX4_stepColumns_121 (lv_at hl 5 rfl) ?_
            refine l_cols hC hK hX (i := i) (by omega) dX4_stepColumns_123 (v := (vp_updL (f) (i) ((((((if (mayB (pd_bnd q0) (st_text (x_now S))) (e0 + 1) = true then lN 1 else lN 0) ||| (((f i) &&& (pd_ptf q0 (sgc ((st_text (x_now S)) e0)))) <<< ((nI (1)).toInt64 &&& 63))) ||| (fb <<< ((nI (1)).toInt64 &&& 63))) ||| fb) ||| (fn <<< ((nI (1)).toInt64 &&& 63))) &&& (mskL (pd_cnt q0)))) i) rfl ?_
            refine lv_lstore (lv' := [(12, .long ((vp_updL (f) (i) ((((((if (mayB (pd_bnd q0) (st_text (x_now S))) (e0 + 1) = true then lN 1 else lN 0) ||| (((f i) &&& (pd_ptf q0 (sgc ((st_text (x_now S)) e0)))) <<< ((nI (1)).toInt64 &&& 63))) ||| (fb <<< ((nI (1)).toInt64 &&& 63))) ||| fb) ||| (fn <<< ((nI (1)).toInt64 &&& 63))) &&& (mskL (pd_cnt q0)))) i)), (10, .long (f i)), (21, .long (fn <<< ((nI (1)).toInt64 &&& 63))), (19, .long (fb <<< ((nI (1)).toInt64 &&& 63))), (17, .long (((f i) &&& (pd_ptf q0 (sgc ((st_text (x_now S)) e0)))) <<< ((nI (1)).toInt64 &&& 63))), (15, .long (f i)), (14, .int (nI (i))), (8, .long (mskL (pd_cnt q0))), (6, .long (if (mayB (pd_bnd q0) (st_text (x_now S))) (e0 + 1) = true then lN 1 else lN 0)), (4, .long (pd_ptf q0 (sgc ((st_text (x_now S)) e0)))), (0, .ref (ad 24)), (1, .ref (ad 0)), (2, .ref (pd_a q0)), (3, .int (nI (e0 + 1)))]) hC.1 hC.2.1 dX4_stepColumns_124 hl (by decide) rfl (fun ls hl => ?_)
            refine lv_iinc (v := nI (i + 1)) (lv' := [(14, .int (nI (i + 1))), (12, .long ((vp_updL (f) (i) ((((((if (mayB (pd_bnd q0) (st_text (x_now S))) (e0 + 1) = true then lN 1 else lN 0) ||| (((f i) &&& (pd_ptf q0 (sgc ((st_text (x_now S)) e0)))) <<< ((nI (1)).toInt64 &&& 63))) ||| (fb <<< ((nI (1)).toInt64 &&& 63))) ||| fb) ||| (fn <<< ((nI (1)).toInt64 &&& 63))) &&& (mskL (pd_cnt q0)))) i)), (10, .long (f i)), (21, .long (fn <<< ((nI (1)).toInt64 &&& 63))), (19, .long (fb <<< ((nI (1)).toInt64 &&& 63))), (17, .long (((f i) &&& (pd_ptf q0 (sgc ((st_text (x_now S)) e0)))) <<< ((nI (1)).toInt64 &&& 63))), (15, .long (f i)), (8, .long (mskL (pd_cnt q0))), (6, .long (if (mayB (pd_bnd q0) (st_text (x_now S))) (e0 + 1) = true then lN 1 else lN 0)), (4, .long (pd_ptf q0 (sgc ((st_text (x_now S)) e0)))), (0, .ref (ad 24)), (1, .ref (ad 0)), (2, .ref (pd_a q0)), (3, .int (nI (e0 + 1)))]) hC.1 hC.2.1 dX4_stepColumns_126 hl (k := 6) rfl (n_inc1 _) (by decide) rfl (fun ls hl => ?_)
            refine lv_goto (tgt := 44) hC.1 hC.2.1 dX4_stepColumns_129 (by decide) ?_
            have hci := hc0 i (by omega)
            have hstep := col_step (tk := tkX (pd_ptf q0) (st_text (x_now S))) (mb := mayB (pd_bnd q0) (st_text (x_now S))) (e := e0) (be := f i) (j := i) hm0 (fun b hb => by rw [hf1 i (Nat.le_refl i)]; exact hci b hb) (taking := pd_ptf q0 (sgc (st_text (x_now S) e0))) (fun b hb => rfl) hfb hfn rfl
            refine ih44 (i + 1) (vp_updL (f) (i) ((((((if (mayB (pd_bnd q0) (st_text (x_now S))) (e0 + 1) = true then lN 1 else lN 0) ||| (((f i) &&& (pd_ptf q0 (sgc ((st_text (x_now S)) e0)))) <<< ((nI (1)).toInt64 &&& 63))) ||| (fb <<< ((nI (1)).toInt64 &&& 63))) ||| fb) ||| (fn <<< ((nI (1)).toInt64 &&& 63))) &&& (mskL (pd_cnt q0)))) (f i) ((vp_updL (f) (i) ((((((if (mayB (pd_bnd q0) (st_text (x_now S))) (e0 + 1) = true then lN 1 else lN 0) ||| (((f i) &&& (pd_ptf q0 (sgc ((st_text (x_now S)) e0)))) <<< ((nI (1)).toInt64 &&& 63))) ||| (fb <<< ((nI (1)).toInt64 &&& 63))) ||| fb) ||| (fn <<< ((nI (1)).toInt64 &&& 63))) &&& (mskL (pd_cnt q0)))) i) ?_ ?_ ?_ ?_ ?_ ?_ _ _ ls hX (lv_sub hl [0, 1, 2, 7, 8, 9, 10, 11, 12, 13] rfl)
            · omega
            · exact fun j hj => by rw [vp_updL_ne (by omega)]; exact hf1 j (by omega)
            · exact fun j hj b hb => by
                rcases Nat.lt_succ_iff_lt_or_eq.mp hj with h | h
                · rw [vp_updL_ne (Nat.ne_of_lt h)]; exact hf2 j h b hb
                · subst h; rw [vp_updL_self]; exact hstep b hb
            · exact fun b hb => by rw [hf1 i (Nat.le_refl i), hci b hb]; simp
            · exact fun b hb => by rw [vp_updL_self, hstep b hb]; simp
            · omega
    refine loop44 _ (0) (x_cols S) (lN 0) (lN 0) ?_ ?_ ?_ ?_ ?_ (Nat.lt_succ_self _) _ _ ls hX (lv_sub hl [0, 1, 2, 3, 4, 5, 6, 7, 8, 9] rfl)
    · omega
    · exact fun j _ => rfl
    · exact fun j hj => absurd hj (Nat.not_lt_zero _)
    · exact fun b hb => by rw [lbit_0 hb]; simp
    · exact fun b hb => by rw [lbit_0 hb]; simp
  refine b_if_eq hC (b := mayB (pd_bnd q0) (st_text (x_now S)) (e0 + 1)) (tgt := 26) dX4_stepColumns_19 (by decide) (fun c19 => ?_) (fun c19 => ?_)
  · skip
    refine lv_lconst (v := lN 0) hC.1 hC.2.1 dX4_stepColumns_26 rfl ?_
    refine n_topl (y := if (mayB (pd_bnd q0) (st_text (x_now S))) (e0 + 1) = true then lN 1 else lN 0) (by first | exact (if_pos (by first | assumption | omega)).symm | exact (if_neg (by first | assumption | omega | simp_all)).symm) ?_
    refine join27  _ _ ls  hX (lv_sub hl [0, 1, 2, 3, 4] rfl)
  · skip
    refine lv_lconst (v := lN 1) hC.1 hC.2.1 dX4_stepColumns_22 rfl ?_
    refine lv_goto (tgt := 27) hC.1 hC.2.1 dX4_stepColumns_23 (by decide) ?_
    refine n_topl (y := if (mayB (pd_bnd q0) (st_text (x_now S))) (e0 + 1) = true then lN 1 else lN 0) (by first | exact (if_pos (by first | assumption | omega)).symm | exact (if_neg (by first | assumption | omega | simp_all)).symm) ?_
    refine join27  _ _ ls  hX (lv_sub hl [0, 1, 2, 3, 4] rfl)
theorem fi_X4_fewestInColumns_X5 : ∀ w ∈ wsX50, w ∈ wsX4_fewestInColumns := by decide +kernel
theorem fi_X4_fewestInColumns_X4 : ∀ w ∈ wsX40, w ∈ wsX4_fewestInColumns := by decide +kernel
theorem fi_X4_fewestInColumns_X2 : ∀ w ∈ wsX20, w ∈ wsX4_fewestInColumns := by decide +kernel
set_option maxHeartbeats 4000000 in
set_option maxRecDepth 100000 in
theorem c_X4_fewestInColumns (l : Launch) (G : GX) (ad : Nat → Nat) (S : XS) (q0 : PatD) (jq0 : Nat) (hq_q0 : (x_pool S)[jq0]? = some q0) (hm0 : pd_cnt q0 ≤ 60) (hk0 : st_most (x_now S) ≤ 4) (d0 : Nat → Nat) (hc0 : colOK (x_cols S) d0 (pd_cnt q0) (st_most (x_now S))) : CtI l yX4_fewestInColumns wsX4_fewestInColumns { frames := 0, cells := 0, slots := 0, locals := 0 } G (wX G ad) (S) [.ref (ad 24), .ref (ad 0), .ref (pd_a q0)] (fun r S' => r = slipV (d0 (pd_cnt q0)) (st_most (x_now S)) ∧ S' = S) 0 0 := by
  refine CtI.of (cc := cX4_fewestInColumns) (maxL := 4) (ret := some .int) (by decide +kernel) rfl (Nat.le_of_ble_eq_true rfl) ?_
  intro p e s m args below meth c ls A hC hr hlk hin hK hA hX hl
  have hl : lv_has ls 4 [(0, .ref (ad 24)), (1, .ref (ad 0)), (2, .ref (pd_a q0))] := hl
  refine lv_iconst (v := nI (0)) hC.1 hC.2.1 dX4_fewestInColumns_0 rfl ?_
  refine lv_istore_n (lv' := [(3, .int (nI (0))), (0, .ref (ad 24)), (1, .ref (ad 0)), (2, .ref (pd_a q0))]) hC.1 hC.2.1 dX4_fewestInColumns_1 rfl hl (by decide) rfl (fun ls hl => ?_)
  have loop2 : ∀ (n9 : Nat) (i : Nat), (i ≤ st_most (x_now S) + 1) → (i ≤ d0 (pd_cnt q0)) → st_most (x_now S) + 1 - i < n9 → ∀ (H : Heap) (locs : List Loc) (ls : Array Slot), HH G A s.heap (wX G ad (S)) H locs → lv_has ls 4 [(3, .int (nI (i))), (0, .ref (ad 24)), (1, .ref (ad 0)), (2, .ref (pd_a q0))] → W p l e { frames := 0, cells := 0, slots := 0, locals := 0 } s m args below meth c H locs 0 0 (EndI G (wX G ad) A (fun r S' => r = slipV (d0 (pd_cnt q0)) (st_most (x_now S)) ∧ S' = S) below args s 0 0) (F0 m 2 ls []) := by
    intro n9
    induction n9 with
    | zero => intro i hi hd hn9; exact absurd hn9 (Nat.not_lt_zero _)
    | succ n9 ih2 =>
      intro i hi hd hn9 H locs ls hX hl
      refine lv_iload_n hC.1 hC.2.1 dX4_fewestInColumns_2 rfl (lv_at hl 0 rfl) ?_
      refine lv_iconst (v := nI (4)) hC.1 hC.2.1 dX4_fewestInColumns_3 rfl ?_
      refine n_icmp_gt hC (a := i) (b := 4) (tgt := 41) dX4_fewestInColumns_4 (by decide) (by omega) (by decide) (fun c4 => ?_) (fun c4 => ?_)
      · skip
        refine lv_iconst (v := (-1)) hC.1 hC.2.1 dX4_fewestInColumns_41 rfl ?_
        refine r_ireturn hC hr hlk hX dX4_fewestInColumns_42 ?_
        exact ⟨by rw [slipV_f (by omega)], rfl⟩
      · skip
        refine lv_iload_n hC.1 hC.2.1 dX4_fewestInColumns_7 rfl (lv_at hl 0 rfl) ?_
        refine lv_aload_n hC.1 hC.2.1 dX4_fewestInColumns_8 rfl (lv_at hl 2 rfl) ?_
        refine gN_most (k := 0) (by decide) hC fi_X4_fewestInColumns_X5 hK hX (hnf hK 12 rfl) dX4_fewestInColumns_9 (v := st_most (x_now S)) rfl ?_
        refine n_icmp_gt hC (a := i) (b := st_most (x_now S)) (tgt := 41) dX4_fewestInColumns_12 (by decide) (by omega) (by omega) (fun c12 => ?_) (fun c12 => ?_)
        · skip
          refine lv_iconst (v := (-1)) hC.1 hC.2.1 dX4_fewestInColumns_41 rfl ?_
          refine r_ireturn hC hr hlk hX dX4_fewestInColumns_42 ?_
          exact ⟨by rw [slipV_f (by omega)], rfl⟩
        · skip
          refine lv_aload_n hC.1 hC.2.1 dX4_fewestInColumns_15 rfl (lv_at hl 1 rfl) ?_
          refine g_search_columns hC fi_X4_fewestInColumns_X4 hK hX (wd9 hC 1 rfl) dX4_fewestInColumns_16 ?_
          refine lv_iload_n hC.1 hC.2.1 dX4_fewestInColumns_19 rfl (lv_at hl 0 rfl) ?_
          refine l_cols hC hK hX (i := i) (by omega) dX4_fewestInColumns_20 (v := (x_cols S) i) rfl ?_
          refine lv_aload_n hC.1 hC.2.1 dX4_fewestInColumns_21 rfl (lv_at hl 3 rfl) ?_
          refine gN_pat_placeCount hC fi_X4_fewestInColumns_X2 hK hX hq_q0 (hnf hK 11 rfl) dX4_fewestInColumns_22 (v := pd_cnt q0) rfl ?_
          refine lv_lushr hC.1 hC.2.1 dX4_fewestInColumns_25 rfl ?_
          refine lv_lconst (v := lN 1) hC.1 hC.2.1 dX4_fewestInColumns_26 rfl ?_
          refine lv_land hC.1 hC.2.1 dX4_fewestInColumns_27 ?_
          refine lv_lconst (v := lN 0) hC.1 hC.2.1 dX4_fewestInColumns_28 rfl ?_
          refine W.lcmp hC.1 hC.2.1 dX4_fewestInColumns_29 ?_
          refine lv_if_eq hC.1 hC.2.1 (x := lg_cmp (((((x_cols S) i).toUInt64 >>> ((nI (pd_cnt q0)).toInt64.toUInt64 &&& Int64.toUInt64 63)).toInt64) &&& (lN 1)) (lN 0)) (tgt := 35) dX4_fewestInColumns_30 (by decide) (fun c30 => ?_) (fun c30 => ?_)
          · skip
            refine lv_iinc (v := nI (i + 1)) (lv' := [(3, .int (nI (i + 1))), (0, .ref (ad 24)), (1, .ref (ad 0)), (2, .ref (pd_a q0))]) hC.1 hC.2.1 dX4_fewestInColumns_35 hl (k := 0) rfl (n_inc1 _) (by decide) rfl (fun ls hl => ?_)
            refine lv_goto (tgt := 2) hC.1 hC.2.1 dX4_fewestInColumns_38 (by decide) ?_
            refine ih2 (i + 1) ?_ ?_ ?_ _ _ ls hX (lv_sub hl [0, 1, 2, 3] rfl)
            · omega
            · exact colNo (hc0 i (by omega)) hm0 hd c30
            · omega
          · skip
            refine lv_iload_n hC.1 hC.2.1 dX4_fewestInColumns_33 rfl (lv_at hl 0 rfl) ?_
            refine r_ireturn hC hr hlk hX dX4_fewestInColumns_34 ?_
            exact ⟨by rw [slipV_t (by have := colYes (hc0 i (by omega)) hm0 c30; omega), show d0 (pd_cnt q0) = i from by have := colYes (hc0 i (by omega)) hm0 c30; omega], rfl⟩
  refine loop2 _ (0) ?_ ?_ (Nat.lt_succ_self _) _ _ ls hX (lv_sub hl [0, 1, 2, 3] rfl)
  · omega
  · omega
theorem fi_X4_noteEnd_X4 : ∀ w ∈ wsX40, w ∈ wsX4_noteEnd := by decide +kernel
theorem hd_X4_fewestInColumns : yX4_fewestInColumns.cls = RX4 ∧ yX4_fewestInColumns.cls ≠ "java/lang/invoke/MethodHandle" ∧ yX4_fewestInColumns.cls ≠ "java/lang/invoke/VarHandle" ∧ (parseMethodDescriptor yX4_fewestInColumns.desc).map (fun d => d.parameters.length) = some 2 := by decide +kernel
set_option maxHeartbeats 4000000 in
set_option maxRecDepth 100000 in
theorem c_X4_noteEnd (l : Launch) (G : GX) (ad : Nat → Nat) (S : XS) (q0 : PatD) (jq0 : Nat) (hq_q0 : (x_pool S)[jq0]? = some q0) (hm0 : pd_cnt q0 ≤ 60) (hk0 : st_most (x_now S) ≤ 4) (e0 : Nat) (he0 : e0 ≤ 120) (d0 : Nat → Nat) (hc0 : colOK (x_cols S) d0 (pd_cnt q0) (st_most (x_now S))) (hd0 : d0 (pd_cnt q0) < 2 ^ 31) (sel0 : Nat → Bool) (hs0 : sel0 e0 = decide (d0 (pd_cnt q0) ≤ st_most (x_now S))) (hL0 : x_listed S = cS sel0 e0) (hR0 : LR (x_ends S) sel0 e0) : CtV l yX4_noteEnd wsX4_noteEnd { frames := 1, cells := 0, slots := 0, locals := 23 } G (wX G ad) (S) [.ref (ad 24), .ref (ad 0), .ref (pd_a q0), .int (nI (e0))] (fun S' => ∃ ef, S' = u_listed (u_ends (u_slipsAt S (upd (x_slipsAt S) e0 (slipV (d0 (pd_cnt q0)) (st_most (x_now S))))) ef) (cS sel0 (e0 + 1)) ∧ LR ef sel0 (e0 + 1)) 0 0 := by
  refine CtV.of (cc := cX4_noteEnd) (maxL := 4) (ret := none) (by decide +kernel) rfl (Nat.le_of_ble_eq_true rfl) ?_
  intro p e s m args below meth c ls A hC hr hlk hin hK hA hX hl
  have hl : lv_has ls 4 [(0, .ref (ad 24)), (1, .ref (ad 0)), (2, .ref (pd_a q0)), (3, .int (nI (e0)))] := hl
  have hcs := cS_le sel0 e0
  refine lv_iload_n hC.1 hC.2.1 dX4_noteEnd_0 rfl (lv_at hl 3 rfl) ?_
  refine n_if_lt hC (a := e0) (tgt := 10) dX4_noteEnd_1 (by decide) (by omega) ?_
  refine lv_iload_n hC.1 hC.2.1 dX4_noteEnd_4 rfl (lv_at hl 3 rfl) ?_
  refine lv_bipush (v := nI (120)) hC.1 hC.2.1 dX4_noteEnd_5 (by decide +kernel) ?_
  refine n_icmp_le hC (a := e0) (b := 120) (tgt := 11) dX4_noteEnd_7 (by decide) (by omega) (by decide) (fun c7 => ?_) (fun c7 => ?_)
  · skip
    refine lv_aload_n hC.1 hC.2.1 dX4_noteEnd_11 rfl (lv_at hl 0 rfl) ?_
    refine g_search_slipsAt hC fi_X4_noteEnd_X4 hK hX (wd9 hC 1 rfl) dX4_noteEnd_12 ?_
    refine lv_iload_n hC.1 hC.2.1 dX4_noteEnd_15 rfl (lv_at hl 3 rfl) ?_
    refine lv_aload_n hC.1 hC.2.1 dX4_noteEnd_16 rfl (lv_at hl 0 rfl) ?_
    refine lv_aload_n hC.1 hC.2.1 dX4_noteEnd_17 rfl (lv_at hl 1 rfl) ?_
    refine lv_aload_n hC.1 hC.2.1 dX4_noteEnd_18 rfl (lv_at hl 2 rfl) ?_
    refine cv_I (As := [.ref (ad 0), .ref (pd_a q0)]) (rest := [.int (nI (e0)), .ref (ad 27)]) hC hK hA hX (c_X4_fewestInColumns l G ad (S) q0 _ hq_q0 hm0 hk0 _ hc0) (cwV 2 hC.2.2.2.2 gX4_noteEnd_X4_fewestInColumns rfl rfl rfl hd_X4_fewestInColumns ⟨Nat.le_of_ble_eq_true rfl, Nat.le_of_ble_eq_true rfl⟩) (ci := 4) (q := (RX4, TX4, 8)) rfl (q0 := 24) rfl dX4_noteEnd_19 rfl hl.1 rfl (Nat.le_of_ble_eq_true rfl) ⟨(Nat.zero_le _), (Nat.zero_le _)⟩ (fun r9 S9 H locs hp9 hX => ?_)
    obtain ⟨rfl, hS9⟩ := hp9
    rw [hS9] at hX
    replace hX : HH G A s.heap (wX G ad (S)) H locs := hX
    refine s_slipsAt hC hK hX (i := e0) (v := slipV (d0 (pd_cnt q0)) (st_most (x_now S))) (by omega) dX4_noteEnd_22 (fun H locs hX => ?_)
    replace hX : HH G A s.heap (wX G ad (u_slipsAt (S) (upd (x_slipsAt S) (e0) (slipV (d0 (pd_cnt q0)) (st_most (x_now S)))))) H locs := hX
    refine lv_aload_n hC.1 hC.2.1 dX4_noteEnd_23 rfl (lv_at hl 0 rfl) ?_
    refine g_search_slipsAt hC fi_X4_noteEnd_X4 hK hX (wd9 hC 1 rfl) dX4_noteEnd_24 ?_
    refine lv_iload_n hC.1 hC.2.1 dX4_noteEnd_27 rfl (lv_at hl 3 rfl) ?_
    refine l_slipsAt hC hK hX (i := e0) (by omega) dX4_noteEnd_28 (v := slipV (d0 (pd_cnt q0)) (st_most (x_now S))) pk_us ?_
    refine lv_iconst (v := (-1)) hC.1 hC.2.1 dX4_noteEnd_29 rfl ?_
    refine lv_icmp_eq hC.1 hC.2.1 (x := slipV (d0 (pd_cnt q0)) (st_most (x_now S))) (y := (-1)) (tgt := 69) dX4_noteEnd_30 (by decide) (fun c30 => ?_) (fun c30 => ?_)
    · skip
      have hs1 : sel0 e0 = false := by rw [hs0]; exact decide_eq_false ((slipV_m1 hd0).mp c30)
      refine r_return hC hr hlk hX dX4_noteEnd_69 ?_
      exact ⟨x_ends S, by rw [cS_f hs1, ← hL0], LR_f hR0 hs1⟩
    · skip
      have hs1 : sel0 e0 = true := by rw [hs0]; exact decide_eq_true (Decidable.byContradiction (fun z => c30 ((slipV_m1 hd0).mpr z)))
      refine lv_aload_n hC.1 hC.2.1 dX4_noteEnd_33 rfl (lv_at hl 0 rfl) ?_
      refine g_search_listed hC fi_X4_noteEnd_X4 hK hX (wd9 hC 2 rfl) dX4_noteEnd_34 (v := x_listed S) rfl ?_
      refine n_if_lt hC (a := x_listed S) (tgt := 69) dX4_noteEnd_37 (by decide) (by omega) ?_
      refine lv_aload_n hC.1 hC.2.1 dX4_noteEnd_40 rfl (lv_at hl 0 rfl) ?_
      refine g_search_listed hC fi_X4_noteEnd_X4 hK hX (wd9 hC 2 rfl) dX4_noteEnd_41 (v := x_listed S) rfl ?_
      refine lv_bipush (v := nI (120)) hC.1 hC.2.1 dX4_noteEnd_44 (by decide +kernel) ?_
      refine n_icmp_gt hC (a := x_listed S) (b := 120) (tgt := 69) dX4_noteEnd_46 (by decide) (by omega) (by decide) (fun c46 => ?_) (fun c46 => ?_)
      · exfalso; omega
      · skip
        refine lv_aload_n hC.1 hC.2.1 dX4_noteEnd_49 rfl (lv_at hl 0 rfl) ?_
        refine g_search_ends hC fi_X4_noteEnd_X4 hK hX (wd9 hC 3 rfl) dX4_noteEnd_50 ?_
        refine lv_aload_n hC.1 hC.2.1 dX4_noteEnd_53 rfl (lv_at hl 0 rfl) ?_
        refine g_search_listed hC fi_X4_noteEnd_X4 hK hX (wd9 hC 2 rfl) dX4_noteEnd_54 (v := x_listed S) rfl ?_
        refine lv_iload_n hC.1 hC.2.1 dX4_noteEnd_57 rfl (lv_at hl 3 rfl) ?_
        refine s_ends hC hK hX (i := x_listed S) (v := e0) (by omega) dX4_noteEnd_58 (fun H locs hX => ?_)
        replace hX : HH G A s.heap (wX G ad (u_ends (u_slipsAt (S) (upd (x_slipsAt S) (e0) (slipV (d0 (pd_cnt q0)) (st_most (x_now S))))) (va_up (x_ends S) (x_listed S) (e0)))) H locs := hX
        refine lv_aload_n hC.1 hC.2.1 dX4_noteEnd_59 rfl (lv_at hl 0 rfl) ?_
        refine lv_dup hC.1 hC.2.1 dX4_noteEnd_60 rfl ?_
        refine g_search_listed hC fi_X4_noteEnd_X4 hK hX (wd9 hC 2 rfl) dX4_noteEnd_61 (v := x_listed S) rfl ?_
        refine lv_iconst (v := nI (1)) hC.1 hC.2.1 dX4_noteEnd_64 rfl ?_
        refine n_add hC (a := x_listed S) (b := 1) dX4_noteEnd_65 ?_
        refine p_search_listed hC fi_X4_noteEnd_X4 hK hX (v := (x_listed S) + (1)) (wd9 hC 2 rfl) dX4_noteEnd_66 (fun H locs hX => ?_)
        replace hX : HH G A s.heap (wX G ad (u_listed (u_ends (u_slipsAt (S) (upd (x_slipsAt S) (e0) (slipV (d0 (pd_cnt q0)) (st_most (x_now S))))) (va_up (x_ends S) (x_listed S) (e0))) ((x_listed S) + (1)))) H locs := hX
        refine r_return hC hr hlk hX dX4_noteEnd_69 ?_
        exact ⟨_, by rw [cS_t hs1, ← hL0], by rw [hL0]; exact LR_t hR0 hs1⟩
  · exfalso; omega
