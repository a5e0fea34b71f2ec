theorem fi_X4_sumOfShares_X4 : ∀ w ∈ wsX40, w ∈ wsX4_sumOfShares := by decide +kernel
set_option maxHeartbeats 4000000 in
set_option maxRecDepth 100000 in
theorem c_X4_sumOfShares (l : Launch) (G : GX) (ad : Nat → Nat) (S : XS) (g : Nat → Nat) (hn0 : x_listed S ≤ 121) (he0 : ∀ r, r < x_listed S → x_ends S r ≤ 120) (hg0 : ∀ r, r < x_listed S → x_slipsAt S (x_ends S r) = nI (g r)) (hg1 : ∀ r, g r ≤ 200) (hg4 : ∀ r, g r ≤ 4) : CtD l yX4_sumOfShares wsX4_sumOfShares { frames := 1, cells := 0, slots := 0, locals := 23 } G (wX G ad) (S) [.ref (ad 24)] (fun r S' => r = shS g (x_listed S) ∧ S' = S) 0 0 := by
  refine CtD.of (cc := cX4_sumOfShares) (maxL := 5) (ret := some .double) (by decide +kernel) rfl (Nat.le_of_ble_eq_true rfl) ?_
  intro p e s m args below meth c ls A hC hr hlk hin hK hA hX hl
  have hl : lv_has ls 5 [(0, .ref (ad 24))] := hl
  refine lv_dconst0 hC.1 hC.2.1 dX4_sumOfShares_0 ?_
  refine lv_dstore_n (lv' := [(1, .double (FP.dconst0)), (0, .ref (ad 24))]) hC.1 hC.2.1 dX4_sumOfShares_1 rfl hl (by decide) rfl (fun ls hl => ?_)
  refine lv_iconst (v := nI (0)) hC.1 hC.2.1 dX4_sumOfShares_2 rfl ?_
  refine lv_istore_n (lv' := [(3, .int (nI (0))), (1, .double (FP.dconst0)), (0, .ref (ad 24))]) hC.1 hC.2.1 dX4_sumOfShares_3 rfl hl (by decide) rfl (fun ls hl => ?_)
  have loop4 : ∀ (n9 : Nat) (i : Nat), (i ≤ x_listed S) → x_listed S - i < n9 → ∀ (H : Heap) (locs : List Loc) (ls : Array Slot), HH G A s.heap (wX G ad (S)) H locs → lv_has ls 5 [(3, .int (nI (i))), (1, .double (shS g i)), (0, .ref (ad 24))] → W p l e { frames := 1, cells := 0, slots := 0, locals := 23 } s m args below meth c H locs 0 0 (EndD G (wX G ad) A (fun r S' => r = shS g (x_listed S) ∧ S' = S) below args s 0 0) (F0 m 4 ls []) := by
    intro n9
    induction n9 with
    | zero => intro i hi hn9; exact absurd hn9 (Nat.not_lt_zero _)
    | succ n9 ih4 =>
      intro i hi hn9 H locs ls hX hl
      have hgi := hg4 i
      refine lv_iload_n hC.1 hC.2.1 dX4_sumOfShares_4 rfl (lv_at hl 0 rfl) ?_
      refine lv_aload_n hC.1 hC.2.1 dX4_sumOfShares_5 rfl (lv_at hl 2 rfl) ?_
      refine g_search_listed hC fi_X4_sumOfShares_X4 hK hX (wd9 hC 1 rfl) dX4_sumOfShares_6 (v := x_listed S) rfl ?_
      refine n_icmp_ge hC (a := i) (b := x_listed S) (tgt := 41) dX4_sumOfShares_9 (by decide) (by omega) (by omega) (fun c9 => ?_) (fun c9 => ?_)
      · skip
        refine lv_dload_n hC.1 hC.2.1 dX4_sumOfShares_41 rfl (lv_at hl 1 rfl) ?_
        refine r_dreturn hC hr hlk hX dX4_sumOfShares_42 ?_
        obtain rfl : i = x_listed S := by omega
        exact ⟨rfl, rfl⟩
      · skip
        refine lv_iconst (v := nI (1)) hC.1 hC.2.1 dX4_sumOfShares_12 rfl ?_
        refine lv_aload_n hC.1 hC.2.1 dX4_sumOfShares_13 rfl (lv_at hl 2 rfl) ?_
        refine lv_iload_n hC.1 hC.2.1 dX4_sumOfShares_14 rfl (lv_at hl 0 rfl) ?_
        refine lv_iconst (v := nI (1)) hC.1 hC.2.1 dX4_sumOfShares_15 rfl ?_
        refine cv_I (As := [.int (nI (i)), .int (nI (1))]) (rest := [.int (nI (1))]) hC hK hA hX (c_X4_tell l G ad (S) (i) (1) (by omega) (by decide) (⟨hn0, he0 _ (by omega)⟩)) (cwV 2 hC.2.2.2.2 gX4_sumOfShares_X4_tell rfl rfl rfl hd_X4_tell ⟨Nat.le_of_ble_eq_true rfl, Nat.le_of_ble_eq_true rfl⟩) (ci := 4) (q := (RX4, TX4, 8)) rfl (q0 := 24) rfl dX4_sumOfShares_16 rfl hl.1 rfl (Nat.le_of_ble_eq_true rfl) ⟨(Nat.zero_le _), (Nat.zero_le _)⟩ (fun r9 S9 H locs hp9 hX => ?_)
        obtain ⟨h9, hS9⟩ := hp9
        obtain rfl : r9 = nI (g i) := by rw [h9]; exact (hg0 i (by omega))
        rw [hS9] at hX
        replace hX : HH G A s.heap (wX G ad (S)) H locs := hX
        refine n_add hC (a := 1) (b := g i) dX4_sumOfShares_19 ?_
        refine lv_istore (lv' := [(4, .int (nI ((1) + (g i)))), (3, .int (nI (i))), (1, .double (shS g i)), (0, .ref (ad 24))]) hC.1 hC.2.1 dX4_sumOfShares_20 hl (by decide) rfl (fun ls hl => ?_)
        refine lv_iload hC.1 hC.2.1 dX4_sumOfShares_22 (lv_at hl 0 rfl) ?_
        refine n_if_le hC (a := (1) + (g i)) (tgt := 35) dX4_sumOfShares_24 (by decide) (by omega) (fun c24 => ?_) (fun c24 => ?_)
        · exfalso; omega
        · skip
          refine lv_dload_n hC.1 hC.2.1 dX4_sumOfShares_27 rfl (lv_at hl 2 rfl) ?_
          refine lv_dconst1 hC.1 hC.2.1 dX4_sumOfShares_28 ?_
          refine lv_iload hC.1 hC.2.1 dX4_sumOfShares_29 (lv_at hl 0 rfl) ?_
          refine lv_i2d hC.1 hC.2.1 dX4_sumOfShares_31 ?_
          refine lv_ddiv hC.1 hC.2.1 dX4_sumOfShares_32 (vf64_of (share_ok hgi)) ?_
          refine lv_dadd hC.1 hC.2.1 dX4_sumOfShares_33 (vf64_of (shS_ok hg4 (i + 1))) ?_
          refine lv_dstore_n (lv' := [(1, .double (FP.dadd (shS g i) (FP.ddiv (FP.dconst1) (FP.i2d (nI ((1) + (g i))))))), (4, .int (nI ((1) + (g i)))), (3, .int (nI (i))), (0, .ref (ad 24))]) hC.1 hC.2.1 dX4_sumOfShares_34 rfl hl (by decide) rfl (fun ls hl => ?_)
          refine lv_iinc (v := nI (i + 1)) (lv' := [(3, .int (nI (i + 1))), (1, .double (FP.dadd (shS g i) (FP.ddiv (FP.dconst1) (FP.i2d (nI ((1) + (g i))))))), (4, .int (nI ((1) + (g i)))), (0, .ref (ad 24))]) hC.1 hC.2.1 dX4_sumOfShares_35 hl (k := 2) rfl (n_inc1 _) (by decide) rfl (fun ls hl => ?_)
          refine lv_goto (tgt := 4) hC.1 hC.2.1 dX4_sumOfShares_38 (by decide) ?_
          refine ih4 (i + 1) ?_ ?_ _ _ ls hX (lv_sub hl [0, 1, 3] rfl)
          · omega
          · omega
  refine loop4 _ (0) ?_ (Nat.lt_succ_self _) _ _ ls hX (lv_sub hl [0, 1, 2] rfl)
  · omega
theorem fi_X4_lengthWithParts_X4 : ∀ w ∈ wsX40, w ∈ wsX4_lengthWithParts := by decide +kernel
set_option maxHeartbeats 4000000 in
set_option maxRecDepth 100000 in
theorem c_X4_lengthWithParts (l : Launch) (G : GX) (ad : Nat → Nat) (S : XS) (L0 : Nat) (hL0 : L0 ≤ 120) (hn0 : x_listed S ≤ 121) (hp0 : partsOK (x_begAt S) (x_ends S) (x_listed S) L0) : CtI l yX4_lengthWithParts wsX4_lengthWithParts { frames := 1, cells := 0, slots := 0, locals := 23 } G (wX G ad) (S) [.ref (ad 24), .int (nI (L0))] (fun r S' => r = nI (L0 + x_listed S - pS (x_begAt S) (x_ends S) (x_listed S)) ∧ S' = S) 0 0 := by
  refine CtI.of (cc := cX4_lengthWithParts) (maxL := 4) (ret := some .int) (by decide +kernel) rfl (Nat.le_of_ble_eq_true rfl) ?_
  intro p e s m args below meth c ls A hC hr hlk hin hK hA hX hl
  have hl : lv_has ls 4 [(0, .ref (ad 24)), (1, .int (nI (L0)))] := hl
  refine lv_iload_n hC.1 hC.2.1 dX4_lengthWithParts_0 rfl (lv_at hl 1 rfl) ?_
  refine lv_istore_n (lv' := [(2, .int (nI (L0))), (0, .ref (ad 24)), (1, .int (nI (L0)))]) hC.1 hC.2.1 dX4_lengthWithParts_1 rfl hl (by decide) rfl (fun ls hl => ?_)
  refine lv_iconst (v := nI (0)) hC.1 hC.2.1 dX4_lengthWithParts_2 rfl ?_
  refine lv_istore_n (lv' := [(3, .int (nI (0))), (2, .int (nI (L0))), (0, .ref (ad 24)), (1, .int (nI (L0)))]) hC.1 hC.2.1 dX4_lengthWithParts_3 rfl hl (by decide) rfl (fun ls hl => ?_)
  have loop4 : ∀ (n9 : Nat) (i : Nat), (i ≤ x_listed S) → x_listed S - i < n9 → ∀ (H : Heap) (locs : List Loc) (ls : Array Slot), HH G A s.heap (wX G ad (S)) H locs → lv_has ls 4 [(3, .int (nI (i))), (2, .int (nI (L0 + i - pS (x_begAt S) (x_ends S) i))), (0, .ref (ad 24)), (1, .int (nI (L0)))] → W p l e { frames := 1, cells := 0, slots := 0, locals := 23 } s m args below meth c H locs 0 0 (EndI G (wX G ad) A (fun r S' => r = nI (L0 + x_listed S - pS (x_begAt S) (x_ends S) (x_listed S)) ∧ S' = S) below args s 0 0) (F0 m 4 ls []) := by
    intro n9
    induction n9 with
    | zero => intro i hi hn9; exact absurd hn9 (Nat.not_lt_zero _)
    | succ n9 ih4 =>
      intro i hi hn9 H locs ls hX hl
      have hpl := pS_L hp0 hi
      refine lv_iload_n hC.1 hC.2.1 dX4_lengthWithParts_4 rfl (lv_at hl 0 rfl) ?_
      refine lv_aload_n hC.1 hC.2.1 dX4_lengthWithParts_5 rfl (lv_at hl 2 rfl) ?_
      refine g_search_listed hC fi_X4_lengthWithParts_X4 hK hX (wd9 hC 1 rfl) dX4_lengthWithParts_6 (v := x_listed S) rfl ?_
      refine n_icmp_ge hC (a := i) (b := x_listed S) (tgt := 36) dX4_lengthWithParts_9 (by decide) (by omega) (by omega) (fun c9 => ?_) (fun c9 => ?_)
      · skip
        refine lv_iload_n hC.1 hC.2.1 dX4_lengthWithParts_36 rfl (lv_at hl 1 rfl) ?_
        refine r_ireturn hC hr hlk hX dX4_lengthWithParts_37 ?_
        obtain rfl : i = x_listed S := by omega
        exact ⟨rfl, rfl⟩
      · skip
        have hp1 := pS_L hp0 (show i + 1 ≤ x_listed S by omega)
        obtain ⟨hp2, hp3, hp4⟩ := hp0 i (by omega)
        have hfl : x_ends S i ≤ 120 := by omega
        have hps : pS (x_begAt S) (x_ends S) (i + 1) = pS (x_begAt S) (x_ends S) i + (x_ends S i - x_begAt S (x_ends S i)) := rfl
        refine lv_iload_n hC.1 hC.2.1 dX4_lengthWithParts_12 rfl (lv_at hl 1 rfl) ?_
        refine lv_iconst (v := nI (1)) hC.1 hC.2.1 dX4_lengthWithParts_13 rfl ?_
        refine lv_aload_n hC.1 hC.2.1 dX4_lengthWithParts_14 rfl (lv_at hl 2 rfl) ?_
        refine lv_iload_n hC.1 hC.2.1 dX4_lengthWithParts_15 rfl (lv_at hl 0 rfl) ?_
        refine lv_iconst (v := nI (0)) hC.1 hC.2.1 dX4_lengthWithParts_16 rfl ?_
        refine cv_I (As := [.int (nI (i)), .int (nI (0))]) (rest := [.int (nI (1)), .int (nI (L0 + i - pS (x_begAt S) (x_ends S) i))]) hC hK hA hX (c_X4_tell l G ad (S) (i) (0) (by omega) (by decide) (⟨hn0, hfl⟩)) (cwV 2 hC.2.2.2.2 gX4_lengthWithParts_X4_tell rfl rfl rfl hd_X4_tell ⟨Nat.le_of_ble_eq_true rfl, Nat.le_of_ble_eq_true rfl⟩) (ci := 4) (q := (RX4, TX4, 8)) rfl (q0 := 24) rfl dX4_lengthWithParts_17 rfl hl.1 rfl (Nat.le_of_ble_eq_true rfl) ⟨(Nat.zero_le _), (Nat.zero_le _)⟩ (fun r9 S9 H locs hp9 hX => ?_)
        obtain ⟨h9, hS9⟩ := hp9
        obtain rfl : r9 = nI ((x_ends S) (i)) := by rw [h9]; exact rfl
        rw [hS9] at hX
        replace hX : HH G A s.heap (wX G ad (S)) H locs := hX
        refine lv_aload_n hC.1 hC.2.1 dX4_lengthWithParts_20 rfl (lv_at hl 2 rfl) ?_
        refine lv_iload_n hC.1 hC.2.1 dX4_lengthWithParts_21 rfl (lv_at hl 0 rfl) ?_
        refine lv_iconst (v := nI (2)) hC.1 hC.2.1 dX4_lengthWithParts_22 rfl ?_
        refine cv_I (As := [.int (nI (i)), .int (nI (2))]) (rest := [.int (nI ((x_ends S) (i))), .int (nI (1)), .int (nI (L0 + i - pS (x_begAt S) (x_ends S) i))]) hC hK hA hX (c_X4_tell l G ad (S) (i) (2) (by omega) (by decide) (⟨hn0, hfl⟩)) (cwV 2 hC.2.2.2.2 gX4_lengthWithParts_X4_tell rfl rfl rfl hd_X4_tell ⟨Nat.le_of_ble_eq_true rfl, Nat.le_of_ble_eq_true rfl⟩) (ci := 4) (q := (RX4, TX4, 8)) rfl (q0 := 24) rfl dX4_lengthWithParts_23 rfl hl.1 rfl (Nat.le_of_ble_eq_true rfl) ⟨(Nat.zero_le _), (Nat.zero_le _)⟩ (fun r9 S9 H locs hp9 hX => ?_)
        obtain ⟨h9, hS9⟩ := hp9
        obtain rfl : r9 = nI ((x_begAt S) ((x_ends S) (i))) := by rw [h9]; exact rfl
        rw [hS9] at hX
        replace hX : HH G A s.heap (wX G ad (S)) H locs := hX
        refine n_sub hC (a := (x_ends S) (i)) (b := (x_begAt S) ((x_ends S) (i))) dX4_lengthWithParts_26 (by omega) ?_
        refine lv_isub hC.1 hC.2.1 dX4_lengthWithParts_27 ?_
        refine lv_iadd hC.1 hC.2.1 dX4_lengthWithParts_28 ?_
        refine n_top (y := nI (L0 + (i + 1) - pS (x_begAt S) (x_ends S) (i + 1))) (lwp_eq (by omega) (by omega) hps (by omega)) ?_
        refine lv_istore_n (lv' := [(2, .int (nI (L0 + (i + 1) - pS (x_begAt S) (x_ends S) (i + 1)))), (3, .int (nI (i))), (0, .ref (ad 24)), (1, .int (nI (L0)))]) hC.1 hC.2.1 dX4_lengthWithParts_29 rfl hl (by decide) rfl (fun ls hl => ?_)
        refine lv_iinc (v := nI (i + 1)) (lv' := [(3, .int (nI (i + 1))), (2, .int (nI (L0 + (i + 1) - pS (x_begAt S) (x_ends S) (i + 1)))), (0, .ref (ad 24)), (1, .int (nI (L0)))]) hC.1 hC.2.1 dX4_lengthWithParts_30 hl (k := 1) rfl (n_inc1 _) (by decide) rfl (fun ls hl => ?_)
        refine lv_goto (tgt := 4) hC.1 hC.2.1 dX4_lengthWithParts_33 (by decide) ?_
        refine ih4 (i + 1) ?_ ?_ _ _ ls hX (lv_sub hl [0, 1, 2, 3] rfl)
        · omega
        · omega
  refine loop4 _ (0) ?_ (Nat.lt_succ_self _) _ _ ls hX (lv_sub hl [0, 1, 2, 3] rfl)
  · omega
