theorem fi_X3_readFault_X3 : ∀ w ∈ wsX30, w ∈ wsX3_readFault := by decide +kernel
theorem fi_X3_readFault_X1 : ∀ w ∈ wsX10, w ∈ wsX3_readFault := by decide +kernel
theorem hd_X3_accepts : yX3_accepts.cls = RX3 ∧ yX3_accepts.cls ≠ "java/lang/invoke/MethodHandle" ∧ yX3_accepts.cls ≠ "java/lang/invoke/VarHandle" ∧ (parseMethodDescriptor yX3_accepts.desc).map (fun d => d.parameters.length) = some 1 := by decide +kernel
set_option maxHeartbeats 4000000 in
set_option maxRecDepth 100000 in
theorem c_X3_readFault (l : Launch) (G : GX) (ad : Nat → Nat) (S : XS) (hl0 : x_plen S ≤ 60) (ht0 : ∀ i, x_typed S i < 65536) (hs0 : x_rset S < 67108864) (hr0 : x_rlast S < 65536) : CtI l yX3_readFault wsX3_readFault { frames := 4, cells := 0, slots := 0, locals := 84 } G (wX G ad) (S) [.ref (ad 22), .ref (ad 20)] (fun r S' => ∃ R, S' = setRD S R ∧ okRD R (x_plen S) ∧ rdFault (x_typed S) (rd0 (getRD S)) (x_plen S) R r) 0 0 := by
  refine CtI.of (cc := cX3_readFault) (maxL := 3) (ret := some .int) (by decide +kernel) rfl (Nat.le_of_ble_eq_true rfl) ?_
  intro p e s m args below meth c ls A hC hr hlk hin hK hA hX hl
  have hl : lv_has ls 3 [(0, .ref (ad 22)), (1, .ref (ad 20))] := hl
  refine lv_aload_n hC.1 hC.2.1 dX3_readFault_0 rfl (lv_at hl 0 rfl) ?_
  refine lv_iconst (v := nI (0)) hC.1 hC.2.1 dX3_readFault_1 rfl ?_
  refine p_reader_placeCount hC fi_X3_readFault_X3 hK hX (v := 0) (wd9 hC 1 rfl) dX3_readFault_2 (fun H locs hX => ?_)
  replace hX : HH G A s.heap (wX G ad (u_rcnt (S) (0))) H locs := hX
  refine lv_aload_n hC.1 hC.2.1 dX3_readFault_5 rfl (lv_at hl 0 rfl) ?_
  refine lv_iconst (v := nI (0)) hC.1 hC.2.1 dX3_readFault_6 rfl ?_
  refine p_reader_bound hC fi_X3_readFault_X3 hK hX (v := false) (wd9 hC 2 rfl) dX3_readFault_7 (fun H locs hX => ?_)
  replace hX : HH G A s.heap (wX G ad (u_rbound (u_rcnt (S) (0)) (false))) H locs := hX
  refine lv_aload_n hC.1 hC.2.1 dX3_readFault_10 rfl (lv_at hl 0 rfl) ?_
  refine lv_iconst (v := nI (0)) hC.1 hC.2.1 dX3_readFault_11 rfl ?_
  refine p_reader_mode hC fi_X3_readFault_X3 hK hX (v := 0) (wd9 hC 3 rfl) dX3_readFault_12 (fun H locs hX => ?_)
  replace hX : HH G A s.heap (wX G ad (u_rmode (u_rbound (u_rcnt (S) (0)) (false)) (0))) H locs := hX
  refine lv_iconst (v := nI (0)) hC.1 hC.2.1 dX3_readFault_15 rfl ?_
  refine lv_istore_n (lv' := [(2, .int (nI (0))), (0, .ref (ad 22)), (1, .ref (ad 20))]) hC.1 hC.2.1 dX3_readFault_16 rfl hl (by decide) rfl (fun ls hl => ?_)
  have loop17 : ∀ (n9 : Nat) (i : Nat) (R : RD), (i ≤ x_plen S) → (rdRun (x_typed S) (rd0 (getRD S)) i = some R) → (okRD R i) → x_plen S - i < n9 → ∀ (H : Heap) (locs : List Loc) (ls : Array Slot), HH G A s.heap (wX G ad (u_rlast (u_rset (u_rturned (u_rmode (u_rbound (u_rcnt (u_rplaces (S) (rd_pl R)) (rd_cnt R)) (rd_bound R)) (rd_mode R)) (rd_turned R)) (rd_set R)) (rd_last R))) H locs → lv_has ls 3 [(2, .int (nI (i))), (0, .ref (ad 22)), (1, .ref (ad 20))] → W p l e { frames := 4, cells := 0, slots := 0, locals := 84 } s m args below meth c H locs 0 0 (EndI G (wX G ad) A (fun r S' => ∃ R, S' = setRD S R ∧ okRD R (x_plen S) ∧ rdFault (x_typed S) (rd0 (getRD S)) (x_plen S) R r) below args s 0 0) (F0 m 17 ls []) := by
    intro n9
    induction n9 with
    | zero => intro i R hi hrun hok hn9; exact absurd hn9 (Nat.not_lt_zero _)
    | succ n9 ih17 =>
      intro i R hi hrun hok hn9 H locs ls hX hl
      refine lv_iload_n hC.1 hC.2.1 dX3_readFault_17 rfl (lv_at hl 0 rfl) ?_
      refine lv_aload_n hC.1 hC.2.1 dX3_readFault_18 rfl (lv_at hl 2 rfl) ?_
      refine gN_pad_length hC fi_X3_readFault_X1 hK hX (hnf hK 8 rfl) dX3_readFault_19 (v := x_plen S) rfl ?_
      refine n_icmp_ge hC (a := i) (b := x_plen S) (tgt := 45) dX3_readFault_22 (by decide) (by omega) (by omega) (fun c22 => ?_) (fun c22 => ?_)
      · skip
        have hm4 := hok.1
        have hn4 := hok.2.1
        refine lv_aload_n hC.1 hC.2.1 dX3_readFault_45 rfl (lv_at hl 1 rfl) ?_
        refine g_reader_mode hC fi_X3_readFault_X3 hK hX (wd9 hC 3 rfl) dX3_readFault_46 (v := rd_mode R) rfl ?_
        refine lv_iconst (v := nI (1)) hC.1 hC.2.1 dX3_readFault_49 rfl ?_
        refine n_icmp_ne hC (a := rd_mode R) (b := 1) (tgt := 64) dX3_readFault_50 (by decide) (by omega) (by decide) (fun c50 => ?_) (fun c50 => ?_)
        · skip
          refine lv_aload_n hC.1 hC.2.1 dX3_readFault_64 rfl (lv_at hl 2 rfl) ?_
          refine gN_pad_length hC fi_X3_readFault_X1 hK hX (hnf hK 8 rfl) dX3_readFault_65 (v := x_plen S) rfl ?_
          refine r_ireturn hC hr hlk hX dX3_readFault_68 ?_
          obtain rfl : i = x_plen S := by omega
          first | exact ⟨R, rfl, hok, Or.inr ⟨hrun, (if_pos ⟨by omega, by omega⟩).symm⟩⟩ | exact ⟨R, rfl, hok, Or.inr ⟨hrun, (if_neg (fun z => by have z1 := z.1; have z2 := z.2; omega)).symm⟩⟩
        · skip
          refine lv_aload_n hC.1 hC.2.1 dX3_readFault_53 rfl (lv_at hl 1 rfl) ?_
          refine g_reader_placeCount hC fi_X3_readFault_X3 hK hX (wd9 hC 1 rfl) dX3_readFault_54 (v := rd_cnt R) rfl ?_
          refine n_if_le hC (a := rd_cnt R) (tgt := 64) dX3_readFault_57 (by decide) (by omega) (fun c57 => ?_) (fun c57 => ?_)
          · skip
            refine lv_aload_n hC.1 hC.2.1 dX3_readFault_64 rfl (lv_at hl 2 rfl) ?_
            refine gN_pad_length hC fi_X3_readFault_X1 hK hX (hnf hK 8 rfl) dX3_readFault_65 (v := x_plen S) rfl ?_
            refine r_ireturn hC hr hlk hX dX3_readFault_68 ?_
            obtain rfl : i = x_plen S := by omega
            first | exact ⟨R, rfl, hok, Or.inr ⟨hrun, (if_pos ⟨by omega, by omega⟩).symm⟩⟩ | exact ⟨R, rfl, hok, Or.inr ⟨hrun, (if_neg (fun z => by have z1 := z.1; have z2 := z.2; omega)).symm⟩⟩
          · skip
            refine lv_iconst (v := (-1)) hC.1 hC.2.1 dX3_readFault_60 rfl ?_
            refine lv_goto (tgt := 68) hC.1 hC.2.1 dX3_readFault_61 (by decide) ?_
            refine r_ireturn hC hr hlk hX dX3_readFault_68 ?_
            obtain rfl : i = x_plen S := by omega
            first | exact ⟨R, rfl, hok, Or.inr ⟨hrun, (if_pos ⟨by omega, by omega⟩).symm⟩⟩ | exact ⟨R, rfl, hok, Or.inr ⟨hrun, (if_neg (fun z => by have z1 := z.1; have z2 := z.2; omega)).symm⟩⟩
      · skip
        refine lv_aload_n hC.1 hC.2.1 dX3_readFault_25 rfl (lv_at hl 1 rfl) ?_
        refine lv_aload_n hC.1 hC.2.1 dX3_readFault_26 rfl (lv_at hl 2 rfl) ?_
        refine lv_iload_n hC.1 hC.2.1 dX3_readFault_27 rfl (lv_at hl 0 rfl) ?_
        refine cv_I (As := [.int (nI (i))]) (rest := [.ref (ad 22)]) hC hK hA hX (c_X1_signAt l G ad (u_rlast (u_rset (u_rturned (u_rmode (u_rbound (u_rcnt (u_rplaces (S) (rd_pl R)) (rd_cnt R)) (rd_bound R)) (rd_mode R)) (rd_turned R)) (rd_set R)) (rd_last R)) (i) (by omega) (ht0 _)) (cwV 1 hC.2.2.2.2 gX3_readFault_X1_signAt rfl rfl rfl hd_X1_signAt ⟨Nat.le_of_ble_eq_true rfl, Nat.le_of_ble_eq_true rfl⟩) (ci := 1) (q := (RX1, TX1, 2)) rfl (q0 := 20) rfl dX3_readFault_28 rfl hl.1 rfl (Nat.le_of_ble_eq_true rfl) ⟨(Nat.zero_le _), (Nat.zero_le _)⟩ (fun r9 S9 H locs hp9 hX => ?_)
        obtain ⟨rfl, hS9⟩ := hp9
        rw [hS9] at hX
        replace hX : HH G A s.heap (wX G ad (u_rlast (u_rset (u_rturned (u_rmode (u_rbound (u_rcnt (u_rplaces (S) (rd_pl R)) (rd_cnt R)) (rd_bound R)) (rd_mode R)) (rd_turned R)) (rd_set R)) (rd_last R))) H locs := hX
        refine cv_I (As := [.int (nI ((x_typed S) i))]) (rest := []) hC hK hA hX (c_X3_accepts l G ad (u_rlast (u_rset (u_rturned (u_rmode (u_rbound (u_rcnt (u_rplaces (S) (rd_pl R)) (rd_cnt R)) (rd_bound R)) (rd_mode R)) (rd_turned R)) (rd_set R)) (rd_last R)) ((x_typed S) i) (ht0 i) hok.1 (Nat.lt_of_le_of_lt hok.2.1 (by omega)) hok.2.2.1 hok.2.2.2.1) (cwV 1 hC.2.2.2.2 gX3_readFault_X3_accepts rfl rfl rfl hd_X3_accepts ⟨Nat.le_of_ble_eq_true rfl, Nat.le_of_ble_eq_true rfl⟩) (ci := 3) (q := (RX3, TX3, 7)) rfl (q0 := 22) rfl dX3_readFault_31 rfl hl.1 rfl (Nat.le_of_ble_eq_true rfl) ⟨(Nat.zero_le _), (Nat.zero_le _)⟩ (fun r9 S9 H locs hp9 hX => ?_)
        obtain ⟨h9, hS9⟩ := rdPost_b hp9
        obtain rfl : r9 = bI (rdGo R (x_typed S i)) := h9
        rw [hS9] at hX
        replace hX : HH G A s.heap (wX G ad (u_rlast (u_rset (u_rturned (u_rmode (u_rbound (u_rcnt (u_rplaces (S) (rd_pl (rdNext R (x_typed S i)))) (rd_cnt (rdNext R (x_typed S i)))) (rd_bound (rdNext R (x_typed S i)))) (rd_mode (rdNext R (x_typed S i)))) (rd_turned (rdNext R (x_typed S i)))) (rd_set (rdNext R (x_typed S i)))) (rd_last (rdNext R (x_typed S i))))) H locs := hX
        refine b_if_ne hC (b := rdGo R (x_typed S i)) (tgt := 39) dX3_readFault_34 (by decide) (fun c34 => ?_) (fun c34 => ?_)
        · skip
          refine lv_iinc (v := nI (i + 1)) (lv' := [(2, .int (nI (i + 1))), (0, .ref (ad 22)), (1, .ref (ad 20))]) hC.1 hC.2.1 dX3_readFault_39 hl (k := 0) rfl (n_inc1 _) (by decide) rfl (fun ls hl => ?_)
          refine lv_goto (tgt := 17) hC.1 hC.2.1 dX3_readFault_42 (by decide) ?_
          refine ih17 (i + 1) ((rdNext R (x_typed S i))) ?_ ?_ ?_ ?_ _ _ ls hX (lv_sub hl [0, 1, 2] rfl)
          · omega
          · exact rdRun_s hrun (by assumption)
          · exact rdStep_ok hok (ht0 i) (rdGo_t (by assumption))
          · omega
        · skip
          refine lv_iload_n hC.1 hC.2.1 dX3_readFault_37 rfl (lv_at hl 0 rfl) ?_
          refine r_ireturn hC hr hlk hX dX3_readFault_38 ?_
          rw [rdNext_f c34] at hX
          exact ⟨_, rfl, by rw [rdNext_f c34]; exact ⟨hok.1, Nat.le_trans hok.2.1 hi, hok.2.2⟩, Or.inl ⟨i, by omega, by rw [rdNext_f c34]; exact hrun, by rw [rdNext_f c34]; exact rdGo_f c34, rfl⟩⟩
  refine loop17 _ (0) (rd0 (getRD S)) ?_ ?_ ?_ (Nat.lt_succ_self _) _ _ ls hX (lv_sub hl [0, 1, 2] rfl)
  · omega
  · rfl
  · exact ⟨Nat.zero_le 4, Nat.le_refl 0, hs0, hr0, fun i hi => absurd hi (Nat.not_lt_zero i)⟩
theorem hd_X4_findEnds : yX4_findEnds.cls = RX4 ∧ yX4_findEnds.cls ≠ "java/lang/invoke/MethodHandle" ∧ yX4_findEnds.cls ≠ "java/lang/invoke/VarHandle" ∧ (parseMethodDescriptor yX4_findEnds.desc).map (fun d => d.parameters.length) = some 2 := by decide +kernel
theorem hd_X4_findBeginnings : yX4_findBeginnings.cls = RX4 ∧ yX4_findBeginnings.cls ≠ "java/lang/invoke/MethodHandle" ∧ yX4_findBeginnings.cls ≠ "java/lang/invoke/VarHandle" ∧ (parseMethodDescriptor yX4_findBeginnings.desc).map (fun d => d.parameters.length) = some 2 := by decide +kernel
theorem fi_X4_findAlone_X4 : ∀ w ∈ wsX40, w ∈ wsX4_findAlone := by decide +kernel
set_option maxHeartbeats 4000000 in
set_option maxRecDepth 100000 in
theorem c_X4_findAlone (l : Launch) (G : GX) (ad : Nat → Nat) (S : XS) (q0 : PatD) (jq0 : Nat) (hq_q0 : (x_pool S)[jq0]? = some q0) (hm0 : pd_cnt q0 ≤ 60) (hk0 : st_most (x_now S) ≤ 4) (hT0 : okT (st_text (x_now S)) (st_len (x_now S))) (hn0 : st_len (x_now S) ≤ 120) : CtV l yX4_findAlone wsX4_findAlone { frames := 4, cells := 0, slots := 0, locals := 108 } G (wX G ad) (S) [.ref (ad 24), .ref (ad 0), .ref (pd_a q0)] (fun S' => ∃ cf kf sf bf ef, S' = u_listed (u_ends (u_begAt (u_slipsAt (u_keys (u_cols S cf) kf) sf) bf) ef) (cS (alE (selX q0 S) (fun e => bcol (tkX (pd_ptf q0) (st_text (x_now S))) (mayB (pd_bnd q0) (st_text (x_now S))) e (pd_cnt q0))) (st_len (x_now S) + 1)) ∧ LR ef (alE (selX q0 S) (fun e => bcol (tkX (pd_ptf q0) (st_text (x_now S))) (mayB (pd_bnd q0) (st_text (x_now S))) e (pd_cnt q0))) (st_len (x_now S) + 1) ∧ (∀ e, e ≤ st_len (x_now S) → sf e = slipV (dcol (tkX (pd_ptf q0) (st_text (x_now S))) (mayB (pd_bnd q0) (st_text (x_now S))) e (pd_cnt q0)) (st_most (x_now S))) ∧ ∀ e, e ≤ st_len (x_now S) → bf e = bcol (tkX (pd_ptf q0) (st_text (x_now S))) (mayB (pd_bnd q0) (st_text (x_now S))) e (pd_cnt q0)) 0 0 := by
  refine CtV.of (cc := cX4_findAlone) (maxL := 7) (ret := none) (by decide +kernel) rfl (Nat.le_of_ble_eq_true rfl) ?_
  intro p e s m args below meth c ls A hC hr hlk hin hK hA hX hl
  have hl : lv_has ls 7 [(0, .ref (ad 24)), (1, .ref (ad 0)), (2, .ref (pd_a q0))] := hl
  have hcl := cS_le (selX q0 S) (st_len (x_now S) + 1)
  refine lv_aload_n hC.1 hC.2.1 dX4_findAlone_0 rfl (lv_at hl 0 rfl) ?_
  refine lv_aload_n hC.1 hC.2.1 dX4_findAlone_1 rfl (lv_at hl 1 rfl) ?_
  refine lv_aload_n hC.1 hC.2.1 dX4_findAlone_2 rfl (lv_at hl 2 rfl) ?_
  refine cv_V (As := [.ref (ad 0), .ref (pd_a q0)]) (rest := []) hC hK hA hX (c_X4_findEnds l G ad (S) q0 _ hq_q0 hm0 hk0 hT0 hn0) (cwV 2 hC.2.2.2.2 gX4_findAlone_X4_findEnds rfl rfl rfl hd_X4_findEnds ⟨Nat.le_of_ble_eq_true rfl, Nat.le_of_ble_eq_true rfl⟩) (ci := 4) (q := (RX4, TX4, 8)) rfl (q0 := 24) rfl dX4_findAlone_3 rfl hl.1 rfl (Nat.le_of_ble_eq_true rfl) ⟨(Nat.zero_le _), (Nat.zero_le _)⟩ (fun S9 H locs hp9 hX => ?_)
  obtain ⟨cf3, sf3, ef3, hS9, hLR3, hsf3⟩ := hp9
  rw [hS9] at hX
  replace hsf3 : ∀ e, e ≤ st_len (x_now S) → sf3 e = slipV (dcol (tkX (pd_ptf q0) (st_text (x_now S))) (mayB (pd_bnd q0) (st_text (x_now S))) e (pd_cnt q0)) (st_most (x_now S)) := hsf3
  replace hLR3 : LR ef3 (selX q0 S) (st_len (x_now S) + 1) := hLR3
  replace hX : HH G A s.heap (wX G ad (u_listed (u_ends (u_slipsAt (u_cols (S) (cf3)) (sf3)) (ef3)) (cS (selX q0 S) (st_len (x_now S) + 1)))) H locs := hX
  refine lv_aload_n hC.1 hC.2.1 dX4_findAlone_6 rfl (lv_at hl 0 rfl) ?_
  refine lv_aload_n hC.1 hC.2.1 dX4_findAlone_7 rfl (lv_at hl 1 rfl) ?_
  refine lv_aload_n hC.1 hC.2.1 dX4_findAlone_8 rfl (lv_at hl 2 rfl) ?_
  refine cv_V (As := [.ref (ad 0), .ref (pd_a q0)]) (rest := []) hC hK hA hX (c_X4_findBeginnings l G ad (u_listed (u_ends (u_slipsAt (u_cols (S) (cf3)) (sf3)) (ef3)) (cS (selX q0 S) (st_len (x_now S) + 1))) q0 _ hq_q0 hm0 hT0 hn0) (cwV 2 hC.2.2.2.2 gX4_findAlone_X4_findBeginnings rfl rfl rfl hd_X4_findBeginnings ⟨Nat.le_of_ble_eq_true rfl, Nat.le_of_ble_eq_true rfl⟩) (ci := 4) (q := (RX4, TX4, 8)) rfl (q0 := 24) rfl dX4_findAlone_9 rfl hl.1 rfl (Nat.le_of_ble_eq_true rfl) ⟨(Nat.zero_le _), (Nat.zero_le _)⟩ (fun S9 H locs hp9 hX => ?_)
  obtain ⟨kf9, bf9, hS9, hbf9⟩ := hp9
  rw [hS9] at hX
  replace hbf9 : ∀ e, e ≤ st_len (x_now S) → bf9 e = bcol (tkX (pd_ptf q0) (st_text (x_now S))) (mayB (pd_bnd q0) (st_text (x_now S))) e (pd_cnt q0) := hbf9
  replace hX : HH G A s.heap (wX G ad (u_listed (u_ends (u_begAt (u_slipsAt (u_keys (u_cols (S) (cf3)) (kf9)) (sf3)) (bf9)) (ef3)) (cS (selX q0 S) (st_len (x_now S) + 1)))) H locs := hX
  refine lv_iconst (v := nI (0)) hC.1 hC.2.1 dX4_findAlone_12 rfl ?_
  refine lv_istore_n (lv' := [(3, .int (nI (0))), (0, .ref (ad 24)), (1, .ref (ad 0)), (2, .ref (pd_a q0))]) hC.1 hC.2.1 dX4_findAlone_13 rfl hl (by decide) rfl (fun ls hl => ?_)
  refine lv_iconst (v := nI (0)) hC.1 hC.2.1 dX4_findAlone_14 rfl ?_
  refine lv_istore (lv' := [(4, .int (nI (0))), (3, .int (nI (0))), (0, .ref (ad 24)), (1, .ref (ad 0)), (2, .ref (pd_a q0))]) hC.1 hC.2.1 dX4_findAlone_15 hl (by decide) rfl (fun ls hl => ?_)
  refine lv_iconst (v := nI (0)) hC.1 hC.2.1 dX4_findAlone_17 rfl ?_
  refine lv_istore (lv' := [(5, .int (nI (0))), (4, .int (nI (0))), (3, .int (nI (0))), (0, .ref (ad 24)), (1, .ref (ad 0)), (2, .ref (pd_a q0))]) hC.1 hC.2.1 dX4_findAlone_18 hl (by decide) rfl (fun ls hl => ?_)
  have loop20 : ∀ (n9 : Nat) (i : Nat) (a : Nat) (bq : Nat) (f : Nat → Nat) (e9 : Nat), (i ≤ cS (selX q0 S) (st_len (x_now S) + 1)) → (alI (selX q0 S) (fun e => bcol (tkX (pd_ptf q0) (st_text (x_now S))) (mayB (pd_bnd q0) (st_text (x_now S))) e (pd_cnt q0)) ef3 (st_len (x_now S) + 1) f e9 i a bq) → cS (selX q0 S) (st_len (x_now S) + 1) - i < n9 → ∀ (H : Heap) (locs : List Loc) (ls : Array Slot), HH G A s.heap (wX G ad (u_listed (u_ends (u_begAt (u_slipsAt (u_keys (u_cols (S) (cf3)) (kf9)) (sf3)) (bf9)) (f)) (cS (selX q0 S) (st_len (x_now S) + 1)))) H locs → lv_has ls 7 [(5, .int (nI (i))), (4, .int (nI (bq))), (3, .int (nI (a))), (0, .ref (ad 24)), (1, .ref (ad 0)), (2, .ref (pd_a q0))] → W p l e { frames := 4, cells := 0, slots := 0, locals := 108 } s m args below meth c H locs 0 0 (EndV G (wX G ad) A (fun S' => ∃ cf kf sf bf ef, S' = u_listed (u_ends (u_begAt (u_slipsAt (u_keys (u_cols S cf) kf) sf) bf) ef) (cS (alE (selX q0 S) (fun e => bcol (tkX (pd_ptf q0) (st_text (x_now S))) (mayB (pd_bnd q0) (st_text (x_now S))) e (pd_cnt q0))) (st_len (x_now S) + 1)) ∧ LR ef (alE (selX q0 S) (fun e => bcol (tkX (pd_ptf q0) (st_text (x_now S))) (mayB (pd_bnd q0) (st_text (x_now S))) e (pd_cnt q0))) (st_len (x_now S) + 1) ∧ (∀ e, e ≤ st_len (x_now S) → sf e = slipV (dcol (tkX (pd_ptf q0) (st_text (x_now S))) (mayB (pd_bnd q0) (st_text (x_now S))) e (pd_cnt q0)) (st_most (x_now S))) ∧ ∀ e, e ≤ st_len (x_now S) → bf e = bcol (tkX (pd_ptf q0) (st_text (x_now S))) (mayB (pd_bnd q0) (st_text (x_now S))) e (pd_cnt q0)) below args s 0 0) (F0 m 20 ls []) := by
    intro n9
    induction n9 with
    | zero => intro i a bq f e9 hi hal hn9; exact absurd hn9 (Nat.not_lt_zero _)
    | succ n9 ih20 =>
      intro i a bq f e9 hi hal hn9 H locs ls hX hl
      refine lv_iload hC.1 hC.2.1 dX4_findAlone_20 (lv_at hl 0 rfl) ?_
      refine lv_aload_n hC.1 hC.2.1 dX4_findAlone_22 rfl (lv_at hl 3 rfl) ?_
      refine g_search_listed hC fi_X4_findAlone_X4 hK hX (wd9 hC 1 rfl) dX4_findAlone_23 (v := cS (selX q0 S) (st_len (x_now S) + 1)) rfl ?_
      refine n_icmp_ge hC (a := i) (b := cS (selX q0 S) (st_len (x_now S) + 1)) (tgt := 77) dX4_findAlone_26 (by decide) (by omega) (by omega) (fun c26 => ?_) (fun c26 => ?_)
      · skip
        refine lv_aload_n hC.1 hC.2.1 dX4_findAlone_77 rfl (lv_at hl 3 rfl) ?_
        refine lv_iload_n hC.1 hC.2.1 dX4_findAlone_78 rfl (lv_at hl 2 rfl) ?_
        refine p_search_listed hC fi_X4_findAlone_X4 hK hX (v := a) (wd9 hC 1 rfl) dX4_findAlone_79 (fun H locs hX => ?_)
        replace hX : HH G A s.heap (wX G ad (u_listed (u_ends (u_begAt (u_slipsAt (u_keys (u_cols (S) (cf3)) (kf9)) (sf3)) (bf9)) (f)) (a))) H locs := hX
        refine r_return hC hr hlk hX dX4_findAlone_82 ?_
        obtain rfl : i = cS (selX q0 S) (st_len (x_now S) + 1) := by omega
        obtain ⟨rfl, hLR⟩ := alI_end hal
        exact ⟨_, _, _, _, _, rfl, hLR, hsf3, hbf9⟩
      · skip
        obtain ⟨hlt2, hse2, hal2, hle2, hbq2⟩ := alI_go hal hLR3 (by omega)
        have hbf2 := hbf9 (f i) (by omega)
        have hbl2 := bcol_le (tk := (tkX (pd_ptf q0) (st_text (x_now S)))) (mb := (mayB (pd_bnd q0) (st_text (x_now S)))) (e := f i) (i := pd_cnt q0) (by omega)
        refine lv_aload_n hC.1 hC.2.1 dX4_findAlone_29 rfl (lv_at hl 3 rfl) ?_
        refine lv_iload hC.1 hC.2.1 dX4_findAlone_30 (lv_at hl 0 rfl) ?_
        refine lv_iconst (v := nI (0)) hC.1 hC.2.1 dX4_findAlone_32 rfl ?_
        refine cv_I (As := [.int (nI (i)), .int (nI (0))]) (rest := []) hC hK hA hX (c_X4_tell l G ad (u_listed (u_ends (u_begAt (u_slipsAt (u_keys (u_cols (S) (cf3)) (kf9)) (sf3)) (bf9)) (f)) (cS (selX q0 S) (st_len (x_now S) + 1))) (i) (0) (show i < cS (selX q0 S) (st_len (x_now S) + 1) from by omega) (by decide) (⟨show cS (selX q0 S) (st_len (x_now S) + 1) ≤ 121 from by omega, show f i ≤ 120 from by omega⟩)) (cwV 2 hC.2.2.2.2 gX4_findAlone_X4_tell rfl rfl rfl hd_X4_tell ⟨Nat.le_of_ble_eq_true rfl, Nat.le_of_ble_eq_true rfl⟩) (ci := 4) (q := (RX4, TX4, 8)) rfl (q0 := 24) rfl dX4_findAlone_33 rfl hl.1 rfl (Nat.le_of_ble_eq_true rfl) ⟨(Nat.zero_le _), (Nat.zero_le _)⟩ (fun r9 S9 H locs hp9 hX => ?_)
        obtain ⟨h9, hS9⟩ := hp9
        obtain rfl : r9 = nI ((f) (i)) := by first | exact h9 | (rw [h9]; exact rfl)
        rw [hS9] at hX
        replace hX : HH G A s.heap (wX G ad (u_listed (u_ends (u_begAt (u_slipsAt (u_keys (u_cols (S) (cf3)) (kf9)) (sf3)) (bf9)) (f)) (cS (selX q0 S) (st_len (x_now S) + 1)))) H locs := hX
        refine lv_istore (lv' := [(6, .int (nI ((f) (i)))), (5, .int (nI (i))), (4, .int (nI (bq))), (3, .int (nI (a))), (0, .ref (ad 24)), (1, .ref (ad 0)), (2, .ref (pd_a q0))]) hC.1 hC.2.1 dX4_findAlone_36 hl (by decide) rfl (fun ls hl => ?_)
        refine lv_aload_n hC.1 hC.2.1 dX4_findAlone_38 rfl (lv_at hl 4 rfl) ?_
        refine lv_iload hC.1 hC.2.1 dX4_findAlone_39 (lv_at hl 1 rfl) ?_
        refine lv_iconst (v := nI (2)) hC.1 hC.2.1 dX4_findAlone_41 rfl ?_
        refine cv_I (As := [.int (nI (i)), .int (nI (2))]) (rest := []) hC hK hA hX (c_X4_tell l G ad (u_listed (u_ends (u_begAt (u_slipsAt (u_keys (u_cols (S) (cf3)) (kf9)) (sf3)) (bf9)) (f)) (cS (selX q0 S) (st_len (x_now S) + 1))) (i) (2) (show i < cS (selX q0 S) (st_len (x_now S) + 1) from by omega) (by decide) (⟨show cS (selX q0 S) (st_len (x_now S) + 1) ≤ 121 from by omega, show f i ≤ 120 from by omega⟩)) (cwV 2 hC.2.2.2.2 gX4_findAlone_X4_tell rfl rfl rfl hd_X4_tell ⟨Nat.le_of_ble_eq_true rfl, Nat.le_of_ble_eq_true rfl⟩) (ci := 4) (q := (RX4, TX4, 8)) rfl (q0 := 24) rfl dX4_findAlone_42 rfl hl.1 rfl (Nat.le_of_ble_eq_true rfl) ⟨(Nat.zero_le _), (Nat.zero_le _)⟩ (fun r9 S9 H locs hp9 hX => ?_)
        obtain ⟨h9, hS9⟩ := hp9
        obtain rfl : r9 = nI ((bf9) ((f) (i))) := by first | exact h9 | (rw [h9]; exact rfl)
        rw [hS9] at hX
        replace hX : HH G A s.heap (wX G ad (u_listed (u_ends (u_begAt (u_slipsAt (u_keys (u_cols (S) (cf3)) (kf9)) (sf3)) (bf9)) (f)) (cS (selX q0 S) (st_len (x_now S) + 1)))) H locs := hX
        refine lv_iload hC.1 hC.2.1 dX4_findAlone_45 (lv_at hl 2 rfl) ?_
        refine n_icmp_lt hC (a := (bf9) ((f) (i))) (b := bq) (tgt := 71) dX4_findAlone_47 (by decide) (by omega) (by omega) (fun c47 => ?_) (fun c47 => ?_)
        · skip
          refine lv_iinc (v := nI (i + 1)) (lv' := [(5, .int (nI (i + 1))), (6, .int (nI ((f) (i)))), (4, .int (nI (bq))), (3, .int (nI (a))), (0, .ref (ad 24)), (1, .ref (ad 0)), (2, .ref (pd_a q0))]) hC.1 hC.2.1 dX4_findAlone_71 hl (k := 1) rfl (n_inc1 _) (by decide) rfl (fun ls hl => ?_)
          refine lv_goto (tgt := 20) hC.1 hC.2.1 dX4_findAlone_74 (by decide) ?_
          refine ih20 (i + 1) (a) (bq) (f) (f i + 1) ?_ ?_ ?_ _ _ ls hX (lv_sub hl [0, 2, 3, 4, 5, 6] rfl)
          · omega
          · first | exact alI_t hal2 hlt2 hse2 (by show bq ≤ bcol (tkX (pd_ptf q0) (st_text (x_now S))) (mayB (pd_bnd q0) (st_text (x_now S))) (f i) (pd_cnt q0); omega) hle2 | exact alI_f hal2 hlt2 hse2 (fun z => by have z2 : bq ≤ bcol (tkX (pd_ptf q0) (st_text (x_now S))) (mayB (pd_bnd q0) (st_text (x_now S))) (f i) (pd_cnt q0) := z; omega)
          · omega
        · skip
          refine lv_iload_n hC.1 hC.2.1 dX4_findAlone_50 rfl (lv_at hl 3 rfl) ?_
          refine lv_bipush (v := nI (120)) hC.1 hC.2.1 dX4_findAlone_51 (by decide +kernel) ?_
          refine n_icmp_gt hC (a := a) (b := 120) (tgt := 71) dX4_findAlone_53 (by decide) (by omega) (by decide) (fun c53 => ?_) (fun c53 => ?_)
          · exfalso; omega
          · skip
            refine lv_aload_n hC.1 hC.2.1 dX4_findAlone_56 rfl (lv_at hl 4 rfl) ?_
            refine g_search_ends hC fi_X4_findAlone_X4 hK hX (wd9 hC 2 rfl) dX4_findAlone_57 ?_
            refine lv_iload_n hC.1 hC.2.1 dX4_findAlone_60 rfl (lv_at hl 3 rfl) ?_
            refine lv_iload hC.1 hC.2.1 dX4_findAlone_61 (lv_at hl 0 rfl) ?_
            refine s_ends hC hK hX (i := a) (v := (f) (i)) (by omega) dX4_findAlone_63 (fun H locs hX => ?_)
            replace hX : HH G A s.heap (wX G ad (u_listed (u_ends (u_begAt (u_slipsAt (u_keys (u_cols (S) (cf3)) (kf9)) (sf3)) (bf9)) (va_up (f) (a) ((f) (i)))) (cS (selX q0 S) (st_len (x_now S) + 1)))) H locs := hX
            refine lv_iinc (v := nI (a + 1)) (lv' := [(3, .int (nI (a + 1))), (6, .int (nI ((f) (i)))), (5, .int (nI (i))), (4, .int (nI (bq))), (0, .ref (ad 24)), (1, .ref (ad 0)), (2, .ref (pd_a q0))]) hC.1 hC.2.1 dX4_findAlone_64 hl (k := 3) rfl (n_inc1 _) (by decide) rfl (fun ls hl => ?_)
            refine lv_iload hC.1 hC.2.1 dX4_findAlone_67 (lv_at hl 1 rfl) ?_
            refine lv_istore (lv' := [(4, .int (nI ((f) (i)))), (3, .int (nI (a + 1))), (6, .int (nI ((f) (i)))), (5, .int (nI (i))), (0, .ref (ad 24)), (1, .ref (ad 0)), (2, .ref (pd_a q0))]) hC.1 hC.2.1 dX4_findAlone_69 hl (by decide) rfl (fun ls hl => ?_)
            refine lv_iinc (v := nI (i + 1)) (lv' := [(5, .int (nI (i + 1))), (4, .int (nI ((f) (i)))), (3, .int (nI (a + 1))), (6, .int (nI ((f) (i)))), (0, .ref (ad 24)), (1, .ref (ad 0)), (2, .ref (pd_a q0))]) hC.1 hC.2.1 dX4_findAlone_71 hl (k := 3) rfl (n_inc1 _) (by decide) rfl (fun ls hl => ?_)
            refine lv_goto (tgt := 20) hC.1 hC.2.1 dX4_findAlone_74 (by decide) ?_
            refine ih20 (i + 1) (a + 1) ((f) (i)) (va_up (f) (a) ((f) (i))) (f i + 1) ?_ ?_ ?_ _ _ ls hX (lv_sub hl [0, 1, 2, 4, 5, 6] rfl)
            · omega
            · first | exact alI_t hal2 hlt2 hse2 (by show bq ≤ bcol (tkX (pd_ptf q0) (st_text (x_now S))) (mayB (pd_bnd q0) (st_text (x_now S))) (f i) (pd_cnt q0); omega) hle2 | exact alI_f hal2 hlt2 hse2 (fun z => by have z2 : bq ≤ bcol (tkX (pd_ptf q0) (st_text (x_now S))) (mayB (pd_bnd q0) (st_text (x_now S))) (f i) (pd_cnt q0) := z; omega)
            · omega
  refine loop20 _ (0) (0) (0) (ef3) (0) ?_ ?_ (Nat.lt_succ_self _) _ _ ls hX (lv_sub hl [0, 1, 2, 3, 4, 5] rfl)
  · omega
  · exact alI_0
