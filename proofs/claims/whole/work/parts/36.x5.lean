theorem fi_X4_sumOfShares_X4 : ∀ w ∈ wsX40, w ∈ wsX4_sumOfShares := by decide +kernel
set_option maxHeartbeats 4000000 in
set_option maxRecDepth 100000 in
theorem c_X4_sumOfShares (l : Launch) (G : GX) (ad : Nat → Nat) (S : XS) (g : Nat → Nat) (hn0 : x_listed S ≤ 121) (he0 : ∀ r, r < x_listed S → x_ends S r ≤ 120) (hg0 : ∀ r, r < x_listed S → x_slipsAt S (x_ends S r) = nI (g r)) (hg1 : ∀ r, g r ≤ 200) (hg4 : ∀ r, g r ≤ 4) : CtD l yX4_sumOfShares wsX4_sumOfShares { frames := 1, cells := 0, slots := 0, locals := 23 } G (wX G ad) (S) [.ref (ad 24)] (fun r S' => r = shS g (x_listed S) ∧ S' = S) 0 0 := by
  refine CtD.of (cc := cX4_sumOfShares) (maxL := 5) (ret := some .double) (by decide +kernel) rfl (Nat.le_of_ble_eq_true rfl) ?_
  intro p e s m args below meth c ls A hC hr hlk hin hK hA hX hl
  have hl : lv_has ls 5 [(0, .ref (ad 24))] := hl
  refine lv_dconst0 hC.1 hC.2.1 dX4_sumOfShares_0 ?_
  refine lv_dstore_n (lv' := [(1, .double (FP.dconst0)), (0, .ref (ad 24))]) hC.1 hC.2.1 dX4_sumOfShares_1 rfl hl (by decide) rfl (fun ls hl => ?_)
  refine lv_iconst (v := nI (0)) hC.1 hC.2.1 dX4_sumOfShares_2 rfl ?_
  refine lv_istore_n (lv' := [(3, .int (nI (0))), (1, .double (FP.dconst0)), (0, .ref (ad 24))]) hC.1 hC.2.1 dX4_sumOfShares_3 rfl hl (by decide) rfl (fun ls hl => ?_)
  have loop4 : ∀ (n9 : Nat) (i : Nat), (i ≤ x_listed S) → x_listed S - i < n9 → ∀ (H : Heap) (locs : List Loc) (ls : Array Slot), HH G A s.heap (wX G ad (S)) H locs → lv_has ls 5 [(3, .int (nI (i))), (1, .double (shS g i)), (0, .ref (ad 24))] → W p l e { frames := 1, cells := 0, slots := 0, locals := 23 } s m args below meth c H locs 0 0 (EndD G (wX G ad) A (fun r S' => r = shS g (x_listed S) ∧ S' = S) below args s 0 0) (F0 m 4 ls []) := by
    intro n9
    induction n9 with
    | zero => intro i hi hn9; exact absurd hn9 (Nat.not_lt_zero _)
    | succ n9 ih4 =>
      intro i hi hn9 H locs ls hX hl
      have hgi := hg4 i
      refine lv_iload_n hC.1 hC.2.1 dX4_sumOfShares_4 rfl (lv_at hl 0 rfl) ?_
      refine lv_aload_n hC.1 hC.2.1 dX4_sumOfShares_5 rfl (lv_at hl 2 rfl) ?_
      refine g_search_listed hC fi_X4_sumOfShares_X4 hK hX (wd9 hC 1 rfl) dX4_sumOfShares_6 (v := x_listed S) rfl ?_
      refine n_icmp_ge hC (a := i) (b := x_listed S) (tgt := 41) dX4_sumOfShares_9 (by decide) (by omega) (by omega) (fun c9 => ?_) (fun c9 => ?_)
      · skip
        refine lv_dload_n hC.1 hC.2.1 dX4_sumOfShares_41 rfl (lv_at hl 1 rfl) ?_
        refine r_dreturn hC hr hlk hX dX4_sumOfShares_42 ?_
        obtain rfl : i = x_listed S := by omega
        exact ⟨rfl, rfl⟩
      · skip
        refine lv_iconst (v := nI (1)) hC.1 hC.2.1 dX4_sumOfShares_12 rfl ?_
        refine lv_aload_n hC.1 hC.2.1 dX4_sumOfShares_13 rfl (lv_at hl 2 rfl) ?_
        refine lv_iload_n hC.1 hC.2.1 dX4_sumOfShares_14 rfl (lv_at hl 0 rfl) ?_
        refine lv_iconst (v := nI (1)) hC.1 hC.2.1 dX4_sumOfShares_15 rfl ?_
        refine cv_I (As := [.int (nI (i)), .int (nI (1))]) (rest := [.int (nI (1))]) hC hK hA hX (c_X4_tell l G ad (S) (i) (1) (by omega) (by decide) (⟨hn0, he0 _ (by omega)⟩)) (cwV 2 hC.2.2.2.2 gX4_sumOfShares_X4_tell rfl rfl rfl hd_X4_tell ⟨Nat.le_of_ble_eq_true rfl, Nat.le_of_ble_eq_true rfl⟩) (ci := 4) (q := (RX4, TX4, 8)) rfl (q0 := 24) rfl dX4_sumOfShares_16 rfl hl.1 rfl (Nat.le_of_ble_eq_true rfl) ⟨(Nat.zero_le _), (Nat.zero_le _)⟩ (fun r9 S9 H locs hp9 hX => ?_)
        obtain ⟨h9, hS9⟩ := hp9
        obtain rfl : r9 = nI (g i) := by first | exact h9 | (rw [h9]; exact (hg0 i (by omega)))
        rw [hS9] at hX
        replace hX : HH G A s.heap (wX G ad (S)) H locs := hX
        refine n_add hC (a := 1) (b := g i) dX4_sumOfShares_19 ?_
        refine lv_istore (lv' := [(4, .int (nI ((1) + (g i)))), (3, .int (nI (i))), (1, .double (shS g i)), (0, .ref (ad 24))]) hC.1 hC.2.1 dX4_sumOfShares_20 hl (by decide) rfl (fun ls hl => ?_)
        refine lv_iload hC.1 hC.2.1 dX4_sumOfShares_22 (lv_at hl 0 rfl) ?_
        refine n_if_le hC (a := (1) + (g i)) (tgt := 35) dX4_sumOfShares_24 (by decide) (by omega) (fun c24 => ?_) (fun c24 => ?_)
        · exfalso; omega
        · skip
          refine lv_dload_n hC.1 hC.2.1 dX4_sumOfShares_27 rfl (lv_at hl 2 rfl) ?_
          refine lv_dconst1 hC.1 hC.2.1 dX4_sumOfShares_28 ?_
          refine lv_iload hC.1 hC.2.1 dX4_sumOfShares_29 (lv_at hl 0 rfl) ?_
          refine lv_i2d hC.1 hC.2.1 dX4_sumOfShares_31 ?_
          refine lv_ddiv hC.1 hC.2.1 dX4_sumOfShares_32 (vf64_of (share_ok hgi)) ?_
          refine lv_dadd hC.1 hC.2.1 dX4_sumOfShares_33 (vf64_of (shS_ok hg4 (i + 1))) ?_
          refine lv_dstore_n (lv' := [(1, .double (FP.dadd (shS g i) (FP.ddiv (FP.dconst1) (FP.i2d (nI ((1) + (g i))))))), (4, .int (nI ((1) + (g i)))), (3, .int (nI (i))), (0, .ref (ad 24))]) hC.1 hC.2.1 dX4_sumOfShares_34 rfl hl (by decide) rfl (fun ls hl => ?_)
          refine lv_iinc (v := nI (i + 1)) (lv' := [(3, .int (nI (i + 1))), (1, .double (FP.dadd (shS g i) (FP.ddiv (FP.dconst1) (FP.i2d (nI ((1) + (g i))))))), (4, .int (nI ((1) + (g i)))), (0, .ref (ad 24))]) hC.1 hC.2.1 dX4_sumOfShares_35 hl (k := 2) rfl (n_inc1 _) (by decide) rfl (fun ls hl => ?_)
          refine lv_goto (tgt := 4) hC.1 hC.2.1 dX4_sumOfShares_38 (by decide) ?_
          refine ih4 (i + 1) ?_ ?_ _ _ ls hX (lv_sub hl [0, 1, 3] rfl)
          · omega
          · omega
  refine loop4 _ (0) ?_ (Nat.lt_succ_self _) _ _ ls hX (lv_sub hl [0, 1, 2] rfl)
  · omega
theorem fi_X4_lengthWithParts_X4 : ∀ w ∈ wsX40, w ∈ wsX4_lengthWithParts := by decide +kernel
set_option maxHeartbeats 4000000 in
set_option maxRecDepth 100000 in
theorem c_X4_lengthWithParts (l : Launch) (G : GX) (ad : Nat → Nat) (S : XS) (L0 : Nat) (hL0 : L0 ≤ 120) (hn0 : x_listed S ≤ 121) (hp0 : partsOK (x_begAt S) (x_ends S) (x_listed S) L0) : CtI l yX4_lengthWithParts wsX4_lengthWithParts { frames := 1, cells := 0, slots := 0, locals := 23 } G (wX G ad) (S) [.ref (ad 24), .int (nI (L0))] (fun r S' => r = nI (L0 + x_listed S - pS (x_begAt S) (x_ends S) (x_listed S)) ∧ S' = S) 0 0 := by
  refine CtI.of (cc := cX4_lengthWithParts) (maxL := 4) (ret := some .int) (by decide +kernel) rfl (Nat.le_of_ble_eq_true rfl) ?_
  intro p e s m args below meth c ls A hC hr hlk hin hK hA hX hl
  have hl : lv_has ls 4 [(0, .ref (ad 24)), (1, .int (nI (L0)))] := hl
  refine lv_iload_n hC.1 hC.2.1 dX4_lengthWithParts_0 rfl (lv_at hl 1 rfl) ?_
  refine lv_istore_n (lv' := [(2, .int (nI (L0))), (0, .ref (ad 24)), (1, .int (nI (L0)))]) hC.1 hC.2.1 dX4_lengthWithParts_1 rfl hl (by decide) rfl (fun ls hl => ?_)
  refine lv_iconst (v := nI (0)) hC.1 hC.2.1 dX4_lengthWithParts_2 rfl ?_
  refine lv_istore_n (lv' := [(3, .int (nI (0))), (2, .int (nI (L0))), (0, .ref (ad 24)), (1, .int (nI (L0)))]) hC.1 hC.2.1 dX4_lengthWithParts_3 rfl hl (by decide) rfl (fun ls hl => ?_)
  have loop4 : ∀ (n9 : Nat) (i : Nat), (i ≤ x_listed S) → x_listed S - i < n9 → ∀ (H : Heap) (locs : List Loc) (ls : Array Slot), HH G A s.heap (wX G ad (S)) H locs → lv_has ls 4 [(3, .int (nI (i))), (2, .int (nI (L0 + i - pS (x_begAt S) (x_ends S) i))), (0, .ref (ad 24)), (1, .int (nI (L0)))] → W p l e { frames := 1, cells := 0, slots := 0, locals := 23 } s m args below meth c H locs 0 0 (EndI G (wX G ad) A (fun r S' => r = nI (L0 + x_listed S - pS (x_begAt S) (x_ends S) (x_listed S)) ∧ S' = S) below args s 0 0) (F0 m 4 ls []) := by
    intro n9
    induction n9 with
    | zero => intro i hi hn9; exact absurd hn9 (Nat.not_lt_zero _)
    | succ n9 ih4 =>
      intro i hi hn9 H locs ls hX hl
      have hpl := pS_L hp0 hi
      refine lv_iload_n hC.1 hC.2.1 dX4_lengthWithParts_4 rfl (lv_at hl 0 rfl) ?_
      refine lv_aload_n hC.1 hC.2.1 dX4_lengthWithParts_5 rfl (lv_at hl 2 rfl) ?_
      refine g_search_listed hC fi_X4_lengthWithParts_X4 hK hX (wd9 hC 1 rfl) dX4_lengthWithParts_6 (v := x_listed S) rfl ?_
      refine n_icmp_ge hC (a := i) (b := x_listed S) (tgt := 36) dX4_lengthWithParts_9 (by decide) (by omega) (by omega) (fun c9 => ?_) (fun c9 => ?_)
      · skip
        refine lv_iload_n hC.1 hC.2.1 dX4_lengthWithParts_36 rfl (lv_at hl 1 rfl) ?_
        refine r_ireturn hC hr hlk hX dX4_lengthWithParts_37 ?_
        obtain rfl : i = x_listed S := by omega
        exact ⟨rfl, rfl⟩
      · skip
        have hp1 := pS_L hp0 (show i + 1 ≤ x_listed S by omega)
        obtain ⟨hp2, hp3, hp4⟩ := hp0 i (by omega)
        have hfl : x_ends S i ≤ 120 := by omega
        have hps : pS (x_begAt S) (x_ends S) (i + 1) = pS (x_begAt S) (x_ends S) i + (x_ends S i - x_begAt S (x_ends S i)) := rfl
        refine lv_iload_n hC.1 hC.2.1 dX4_lengthWithParts_12 rfl (lv_at hl 1 rfl) ?_
        refine lv_iconst (v := nI (1)) hC.1 hC.2.1 dX4_lengthWithParts_13 rfl ?_
        refine lv_aload_n hC.1 hC.2.1 dX4_lengthWithParts_14 rfl (lv_at hl 2 rfl) ?_
        refine lv_iload_n hC.1 hC.2.1 dX4_lengthWithParts_15 rfl (lv_at hl 0 rfl) ?_
        refine lv_iconst (v := nI (0)) hC.1 hC.2.1 dX4_lengthWithParts_16 rfl ?_
        refine cv_I (As := [.int (nI (i)), .int (nI (0))]) (rest := [.int (nI (1)), .int (nI (L0 + i - pS (x_begAt S) (x_ends S) i))]) hC hK hA hX (c_X4_tell l G ad (S) (i) (0) (by omega) (by decide) (⟨hn0, hfl⟩)) (cwV 2 hC.2.2.2.2 gX4_lengthWithParts_X4_tell rfl rfl rfl hd_X4_tell ⟨Nat.le_of_ble_eq_true rfl, Nat.le_of_ble_eq_true rfl⟩) (ci := 4) (q := (RX4, TX4, 8)) rfl (q0 := 24) rfl dX4_lengthWithParts_17 rfl hl.1 rfl (Nat.le_of_ble_eq_true rfl) ⟨(Nat.zero_le _), (Nat.zero_le _)⟩ (fun r9 S9 H locs hp9 hX => ?_)
        obtain ⟨h9, hS9⟩ := hp9
        obtain rfl : r9 = nI ((x_ends S) (i)) := by first | exact h9 | (rw [h9]; exact rfl)
        rw [hS9] at hX
        replace hX : HH G A s.heap (wX G ad (S)) H locs := hX
        refine lv_aload_n hC.1 hC.2.1 dX4_lengthWithParts_20 rfl (lv_at hl 2 rfl) ?_
        refine lv_iload_n hC.1 hC.2.1 dX4_lengthWithParts_21 rfl (lv_at hl 0 rfl) ?_
        refine lv_iconst (v := nI (2)) hC.1 hC.2.1 dX4_lengthWithParts_22 rfl ?_
        refine cv_I (As := [.int (nI (i)), .int (nI (2))]) (rest := [.int (nI ((x_ends S) (i))), .int (nI (1)), .int (nI (L0 + i - pS (x_begAt S) (x_ends S) i))]) hC hK hA hX (c_X4_tell l G ad (S) (i) (2) (by omega) (by decide) (⟨hn0, hfl⟩)) (cwV 2 hC.2.2.2.2 gX4_lengthWithParts_X4_tell rfl rfl rfl hd_X4_tell ⟨Nat.le_of_ble_eq_true rfl, Nat.le_of_ble_eq_true rfl⟩) (ci := 4) (q := (RX4, TX4, 8)) rfl (q0 := 24) rfl dX4_lengthWithParts_23 rfl hl.1 rfl (Nat.le_of_ble_eq_true rfl) ⟨(Nat.zero_le _), (Nat.zero_le _)⟩ (fun r9 S9 H locs hp9 hX => ?_)
        obtain ⟨h9, hS9⟩ := hp9
        obtain rfl : r9 = nI ((x_begAt S) ((x_ends S) (i))) := by first | exact h9 | (rw [h9]; exact rfl)
        rw [hS9] at hX
        replace hX : HH G A s.heap (wX G ad (S)) H locs := hX
        refine n_sub hC (a := (x_ends S) (i)) (b := (x_begAt S) ((x_ends S) (i))) dX4_lengthWithParts_26 (by omega) ?_
        refine lv_isub hC.1 hC.2.1 dX4_lengthWithParts_27 ?_
        refine lv_iadd hC.1 hC.2.1 dX4_lengthWithParts_28 ?_
        refine n_top (y := nI (L0 + (i + 1) - pS (x_begAt S) (x_ends S) (i + 1))) (lwp_eq (by omega) (by omega) hps (by omega)) ?_
        refine lv_istore_n (lv' := [(2, .int (nI (L0 + (i + 1) - pS (x_begAt S) (x_ends S) (i + 1)))), (3, .int (nI (i))), (0, .ref (ad 24)), (1, .int (nI (L0)))]) hC.1 hC.2.1 dX4_lengthWithParts_29 rfl hl (by decide) rfl (fun ls hl => ?_)
        refine lv_iinc (v := nI (i + 1)) (lv' := [(3, .int (nI (i + 1))), (2, .int (nI (L0 + (i + 1) - pS (x_begAt S) (x_ends S) (i + 1)))), (0, .ref (ad 24)), (1, .int (nI (L0)))]) hC.1 hC.2.1 dX4_lengthWithParts_30 hl (k := 1) rfl (n_inc1 _) (by decide) rfl (fun ls hl => ?_)
        refine lv_goto (tgt := 4) hC.1 hC.2.1 dX4_lengthWithParts_33 (by decide) ?_
        refine ih4 (i + 1) ?_ ?_ _ _ ls hX (lv_sub hl [0, 1, 2, 3] rfl)
        · omega
        · omega
  refine loop4 _ (0) ?_ (Nat.lt_succ_self _) _ _ ls hX (lv_sub hl [0, 1, 2, 3] rfl)
  · omega
theorem fi_X4_putLetterForParts_X5 : ∀ w ∈ wsX50, w ∈ wsX4_putLetterForParts := by decide +kernel
theorem fi_X4_putLetterForParts_X4 : ∀ w ∈ wsX40, w ∈ wsX4_putLetterForParts := by decide +kernel
theorem hd_X5_append : yX5_append.cls = RX5 ∧ yX5_append.cls ≠ "java/lang/invoke/MethodHandle" ∧ yX5_append.cls ≠ "java/lang/invoke/VarHandle" ∧ (parseMethodDescriptor yX5_append.desc).map (fun d => d.parameters.length) = some 1 := by decide +kernel
set_option maxHeartbeats 4000000 in
set_option maxRecDepth 100000 in
theorem c_X4_putLetterForParts (l : Launch) (G : GX) (ad : Nat → Nat) (S : XS) (c0 : Nat) (hc0 : c0 < 65536) (ht0 : ∀ i, st_text (x_now S) i < 65536) (hL0 : st_len (x_now S) ≤ 120) (hn0 : x_listed S ≤ 121) (hp0 : partsOK (x_begAt S) (x_ends S) (x_listed S) (st_len (x_now S))) (htot : st_len (x_now S) + x_listed S - pS (x_begAt S) (x_ends S) (x_listed S) ≤ 120) : CtV l yX4_putLetterForParts wsX4_putLetterForParts { frames := 1, cells := 0, slots := 0, locals := 32 } G (wX G ad) (S) [.ref (ad 24), .ref (ad 0), .int (nI (c0))] (fun S' => S' = u_oldText (u_now S (repF (st_text (x_now S)) c0 (x_begAt S) (x_ends S) (st_len (x_now S)) (x_listed S), st_len (x_now S) + x_listed S - pS (x_begAt S) (x_ends S) (x_listed S), st_pats (x_now S), st_pcnt (x_now S), st_most (x_now S))) (va_cpy (st_text (x_now S)) (x_oldText S) 0 0 120)) 0 0 := by
  refine CtV.of (cc := cX4_putLetterForParts) (maxL := 9) (ret := none) (by decide +kernel) rfl (Nat.le_of_ble_eq_true rfl) ?_
  intro p e s m args below meth c ls A hC hr hlk hin hK hA hX hl
  have hl : lv_has ls 9 [(0, .ref (ad 24)), (1, .ref (ad 0)), (2, .int (nI (c0)))] := hl
  refine lv_aload_n hC.1 hC.2.1 dX4_putLetterForParts_0 rfl (lv_at hl 1 rfl) ?_
  refine gN_text (k := 0) (by decide) hC fi_X4_putLetterForParts_X5 hK hX (hnf hK 9 rfl) dX4_putLetterForParts_1 ?_
  refine lv_iconst (v := nI (0)) hC.1 hC.2.1 dX4_putLetterForParts_4 rfl ?_
  refine lv_aload_n hC.1 hC.2.1 dX4_putLetterForParts_5 rfl (lv_at hl 0 rfl) ?_
  refine g_search_oldText hC fi_X4_putLetterForParts_X4 hK hX (wd9 hC 1 rfl) dX4_putLetterForParts_6 ?_
  refine lv_iconst (v := nI (0)) hC.1 hC.2.1 dX4_putLetterForParts_9 rfl ?_
  refine lv_bipush (v := nI (120)) hC.1 hC.2.1 dX4_putLetterForParts_10 (by decide +kernel) ?_
  refine va_copyi (ty := .char) hC.1 hC.2.1 (hC.2.2.1.trans hl.1.symm) hC.2.2.2.1 (wd9 hC 2 rfl) (wd9 hC 3 rfl) (wd9 hC 4 rfl) (wd9 hC 5 rfl) hK.1 hX.1 hX.2.1 hX.2.2 1 30 0 0 (f := fun k9 => nI (st_text (x_now S) k9)) (g := fun k9 => nI (x_oldText S k9)) rfl rfl rfl rfl rfl (by decide +kernel) (by decide +kernel) (by decide +kernel) (by decide +kernel) (by decide +kernel) (fun i hi => (pk_charN (ht0 _)).2) (Nat.le_of_ble_eq_true rfl) (by decide +kernel) dX4_putLetterForParts_12 (fun H locs hP hD hS => ?_)
  rw [show (nI 0).toNatClampNeg = 0 from by decide +kernel, show (nI 120).toNatClampNeg = 120 from by decide +kernel, nA_cpy] at hP hD
  have hX : HH G A s.heap (wX G ad (u_oldText S (va_cpy (st_text (x_now S)) (x_oldText S) 0 0 120))) H locs := ⟨hP, hD, hS⟩
  refine lv_aload_n hC.1 hC.2.1 dX4_putLetterForParts_15 rfl (lv_at hl 1 rfl) ?_
  refine gN_len (k := 0) (by decide) hC fi_X4_putLetterForParts_X5 hK hX (hnf hK 10 rfl) dX4_putLetterForParts_16 (v := st_len (x_now S)) rfl ?_
  refine lv_istore_n (lv' := [(3, .int (nI (st_len (x_now S)))), (0, .ref (ad 24)), (1, .ref (ad 0)), (2, .int (nI (c0)))]) hC.1 hC.2.1 dX4_putLetterForParts_19 rfl hl (by decide) rfl (fun ls hl => ?_)
  refine lv_iconst (v := nI (0)) hC.1 hC.2.1 dX4_putLetterForParts_20 rfl ?_
  refine lv_istore (lv' := [(4, .int (nI (0))), (3, .int (nI (st_len (x_now S)))), (0, .ref (ad 24)), (1, .ref (ad 0)), (2, .int (nI (c0)))]) hC.1 hC.2.1 dX4_putLetterForParts_21 hl (by decide) rfl (fun ls hl => ?_)
  refine lv_aload_n hC.1 hC.2.1 dX4_putLetterForParts_23 rfl (lv_at hl 3 rfl) ?_
  refine lv_iconst (v := nI (0)) hC.1 hC.2.1 dX4_putLetterForParts_24 rfl ?_
  refine pN_len (k := 0) (by decide) hC fi_X4_putLetterForParts_X5 hK hX (v := 0) (hnf hK 10 rfl) dX4_putLetterForParts_25 (fun H locs hX => ?_)
  replace hX : HH G A s.heap (wX G ad (u_oldText (u_now S (st_text (x_now S), 0, st_pats (x_now S), st_pcnt (x_now S), st_most (x_now S))) (va_cpy (st_text (x_now S)) (x_oldText S) 0 0 120))) H locs := hX
  refine lv_iconst (v := nI (0)) hC.1 hC.2.1 dX4_putLetterForParts_28 rfl ?_
  refine lv_istore (lv' := [(5, .int (nI (0))), (4, .int (nI (0))), (3, .int (nI (st_len (x_now S)))), (0, .ref (ad 24)), (1, .ref (ad 0)), (2, .int (nI (c0)))]) hC.1 hC.2.1 dX4_putLetterForParts_29 hl (by decide) rfl (fun ls hl => ?_)
  have loop31 : ∀ (n9 : Nat) (i : Nat) (tt : Nat → Nat) (ll : Nat) (pp : Nat), (i ≤ x_listed S + 1) → ((i ≤ x_listed S ∧ tt = repT (st_text (x_now S)) c0 (x_begAt S) (x_ends S) i ∧ ll = repL (x_begAt S) (x_ends S) i ∧ pp = repP (x_ends S) i) ∨ (i = x_listed S + 1 ∧ tt = repF (st_text (x_now S)) c0 (x_begAt S) (x_ends S) (st_len (x_now S)) (x_listed S) ∧ ll = st_len (x_now S) + x_listed S - pS (x_begAt S) (x_ends S) (x_listed S))) → x_listed S + 1 - i < n9 → ∀ (H : Heap) (locs : List Loc) (ls : Array Slot), HH G A s.heap (wX G ad (u_oldText (u_now S (tt, ll, st_pats (x_now S), st_pcnt (x_now S), st_most (x_now S))) (va_cpy (st_text (x_now S)) (x_oldText S) 0 0 120))) H locs → lv_has ls 9 [(5, .int (nI (i))), (4, .int (nI (pp))), (3, .int (nI (st_len (x_now S)))), (0, .ref (ad 24)), (1, .ref (ad 0)), (2, .int (nI (c0)))] → W p l e { frames := 1, cells := 0, slots := 0, locals := 32 } s m args below meth c H locs 0 0 (EndV G (wX G ad) A (fun S' => S' = u_oldText (u_now S (repF (st_text (x_now S)) c0 (x_begAt S) (x_ends S) (st_len (x_now S)) (x_listed S), st_len (x_now S) + x_listed S - pS (x_begAt S) (x_ends S) (x_listed S), st_pats (x_now S), st_pcnt (x_now S), st_most (x_now S))) (va_cpy (st_text (x_now S)) (x_oldText S) 0 0 120)) below args s 0 0) (F0 m 31 ls []) := by
    intro n9
    induction n9 with
    | zero => intro i tt ll pp hi hin hn9; exact absurd hn9 (Nat.not_lt_zero _)
    | succ n9 ih31 =>
      intro i tt ll pp hi hin hn9 H locs ls hX hl
      refine lv_iload hC.1 hC.2.1 dX4_putLetterForParts_31 (lv_at hl 0 rfl) ?_
      refine lv_aload_n hC.1 hC.2.1 dX4_putLetterForParts_33 rfl (lv_at hl 3 rfl) ?_
      refine g_search_listed hC fi_X4_putLetterForParts_X4 hK hX (wd9 hC 6 rfl) dX4_putLetterForParts_34 (v := x_listed S) rfl ?_
      refine n_icmp_gt hC (a := i) (b := x_listed S) (tgt := 139) dX4_putLetterForParts_37 (by decide) (by omega) (by omega) (fun c37 => ?_) (fun c37 => ?_)
      · skip
        refine r_return hC hr hlk hX dX4_putLetterForParts_139 ?_
        obtain ⟨hi2, ht2, hl2⟩ := hin.resolve_left (fun z => by have := z.1; omega)
        exact (by rw [ht2, hl2])
      · skip
        obtain ⟨hi2, ht2, hl2, hp2⟩ := hin.resolve_right (fun z => by have := z.1; omega)
        refine lv_iload hC.1 hC.2.1 dX4_putLetterForParts_40 (lv_at hl 0 rfl) ?_
        refine lv_aload_n hC.1 hC.2.1 dX4_putLetterForParts_42 rfl (lv_at hl 3 rfl) ?_
        refine g_search_listed hC fi_X4_putLetterForParts_X4 hK hX (wd9 hC 6 rfl) dX4_putLetterForParts_43 (v := x_listed S) rfl ?_
        refine n_icmp_ge hC (a := i) (b := x_listed S) (tgt := 53) dX4_putLetterForParts_46 (by decide) (by omega) (by omega) (fun c46 => ?_) (fun c46 => ?_)
        · skip
          refine lv_iconst (v := nI (0)) hC.1 hC.2.1 dX4_putLetterForParts_53 rfl ?_
          refine lv_istore (lv' := [(6, .int (nI (0))), (5, .int (nI (i))), (4, .int (nI (pp))), (3, .int (nI (st_len (x_now S)))), (0, .ref (ad 24)), (1, .ref (ad 0)), (2, .int (nI (c0)))]) hC.1 hC.2.1 dX4_putLetterForParts_54 hl (by decide) rfl (fun ls hl => ?_)
          refine lv_iload hC.1 hC.2.1 dX4_putLetterForParts_56 (lv_at hl 0 rfl) ?_
          refine n_if_eq hC (a := 0) (tgt := 71) dX4_putLetterForParts_58 (by decide) (by decide) (fun c58 => ?_) (fun c58 => absurd c58 (by decide))
          refine lv_iload_n hC.1 hC.2.1 dX4_putLetterForParts_71 rfl (lv_at hl 3 rfl) ?_
          obtain ⟨tq, htq⟩ : ∃ tq, tq = st_len (x_now S) := ⟨_, rfl⟩
          refine n_top (y := nI tq) (by rw [htq]) ?_
          obtain rfl : i = x_listed S := by omega
          have hrl := repL_F hp0
          have hrp := repP_L hp0 (Nat.le_refl _)
          refine lv_istore (lv' := [(7, .int (nI (tq))), (6, .int (nI (0))), (5, .int (nI ((x_listed S)))), (4, .int (nI (pp))), (3, .int (nI (st_len (x_now S)))), (0, .ref (ad 24)), (1, .ref (ad 0)), (2, .int (nI (c0)))]) hC.1 hC.2.1 dX4_putLetterForParts_72 hl (by decide) rfl (fun ls hl => ?_)
          refine lv_iload hC.1 hC.2.1 dX4_putLetterForParts_74 (lv_at hl 3 rfl) ?_
          refine lv_istore (lv' := [(8, .int (nI (pp))), (7, .int (nI (tq))), (6, .int (nI (0))), (5, .int (nI ((x_listed S)))), (4, .int (nI (pp))), (3, .int (nI (st_len (x_now S)))), (0, .ref (ad 24)), (1, .ref (ad 0)), (2, .int (nI (c0)))]) hC.1 hC.2.1 dX4_putLetterForParts_76 hl (by decide) rfl (fun ls hl => ?_)
          have loop78 : ∀ (n9 : Nat) (d : Nat), (pp + d ≤ tq) → tq - (pp + d) < n9 → ∀ (H : Heap) (locs : List Loc) (ls : Array Slot), HH G A s.heap (wX G ad (u_oldText (u_now S (cpR (st_text (x_now S)) tt ll pp d, ll + d, st_pats (x_now S), st_pcnt (x_now S), st_most (x_now S))) (va_cpy (st_text (x_now S)) (x_oldText S) 0 0 120))) H locs → lv_has ls 9 [(8, .int (nI (pp + d))), (7, .int (nI (tq))), (6, .int (nI (0))), (5, .int (nI ((x_listed S)))), (4, .int (nI (pp))), (3, .int (nI (st_len (x_now S)))), (0, .ref (ad 24)), (1, .ref (ad 0)), (2, .int (nI (c0)))] → W p l e { frames := 1, cells := 0, slots := 0, locals := 32 } s m args below meth c H locs 0 0 (EndV G (wX G ad) A (fun S' => S' = u_oldText (u_now S (repF (st_text (x_now S)) c0 (x_begAt S) (x_ends S) (st_len (x_now S)) (x_listed S), st_len (x_now S) + x_listed S - pS (x_begAt S) (x_ends S) (x_listed S), st_pats (x_now S), st_pcnt (x_now S), st_most (x_now S))) (va_cpy (st_text (x_now S)) (x_oldText S) 0 0 120)) below args s 0 0) (F0 m 78 ls []) := by
            intro n9
            induction n9 with
            | zero => intro d hd hn9; exact absurd hn9 (Nat.not_lt_zero _)
            | succ n9 ih78 =>
              intro d hd hn9 H locs ls hX hl
              refine lv_iload hC.1 hC.2.1 dX4_putLetterForParts_78 (lv_at hl 0 rfl) ?_
              refine n_if_lt hC (a := pp + d) (tgt := 114) dX4_putLetterForParts_80 (by decide) (by omega) ?_
              refine lv_iload hC.1 hC.2.1 dX4_putLetterForParts_83 (lv_at hl 0 rfl) ?_
              refine lv_iload hC.1 hC.2.1 dX4_putLetterForParts_85 (lv_at hl 1 rfl) ?_
              refine n_icmp_ge hC (a := pp + d) (b := tq) (tgt := 114) dX4_putLetterForParts_87 (by decide) (by omega) (by omega) (fun c87 => ?_) (fun c87 => ?_)
              · skip
                refine lv_iload hC.1 hC.2.1 dX4_putLetterForParts_114 (lv_at hl 2 rfl) ?_
                refine n_if_eq hC (a := 0) (tgt := 133) dX4_putLetterForParts_116 (by decide) (by decide) (fun c116 => ?_) (fun c116 => absurd c116 (by decide))
                refine lv_iinc (v := nI ((x_listed S) + 1)) (lv' := [(5, .int (nI ((x_listed S) + 1))), (8, .int (nI (pp + d))), (7, .int (nI (tq))), (6, .int (nI (0))), (4, .int (nI (pp))), (3, .int (nI (st_len (x_now S)))), (0, .ref (ad 24)), (1, .ref (ad 0)), (2, .int (nI (c0)))]) hC.1 hC.2.1 dX4_putLetterForParts_133 hl (k := 3) rfl (n_inc1 _) (by decide) rfl (fun ls hl => ?_)
                refine lv_goto (tgt := 31) hC.1 hC.2.1 dX4_putLetterForParts_136 (by decide) ?_
                refine ih31 ((x_listed S) + 1) (cpR (st_text (x_now S)) tt ll pp d) (ll + d) (pp) ?_ ?_ ?_ _ _ ls hX (lv_sub hl [0, 4, 5, 6, 7, 8] rfl)
                · omega
                · first | exact Or.inl ⟨by omega, by (obtain rfl : d = tq - pp := (by omega)); subst ht2; subst hl2; subst hp2; subst htq; rfl, by omega, rfl⟩ | exact Or.inr ⟨rfl, by (obtain rfl : d = tq - pp := (by omega)); subst ht2; subst hl2; subst hp2; subst htq; rfl, by omega⟩
                · omega
              · skip
                refine lv_iload hC.1 hC.2.1 dX4_putLetterForParts_90 (lv_at hl 0 rfl) ?_
                refine lv_bipush (v := nI (120)) hC.1 hC.2.1 dX4_putLetterForParts_92 (by decide +kernel) ?_
                refine n_icmp_ge hC (a := pp + d) (b := 120) (tgt := 114) dX4_putLetterForParts_94 (by decide) (by omega) (by decide) (fun c94 => ?_) (fun c94 => ?_)
                · exfalso; omega
                · skip
                  refine lv_aload_n hC.1 hC.2.1 dX4_putLetterForParts_97 rfl (lv_at hl 7 rfl) ?_
                  refine lv_aload_n hC.1 hC.2.1 dX4_putLetterForParts_98 rfl (lv_at hl 6 rfl) ?_
                  refine g_search_oldText hC fi_X4_putLetterForParts_X4 hK hX (wd9 hC 1 rfl) dX4_putLetterForParts_99 ?_
                  refine lv_iload hC.1 hC.2.1 dX4_putLetterForParts_102 (lv_at hl 0 rfl) ?_
                  refine l_oldText hC hK hX (i := pp + d) (by omega) dX4_putLetterForParts_104 (v := st_text (x_now S) (pp + d)) (va_cpy_0 (by omega)) ?_
                  refine cv_V (As := [.int (nI (st_text (x_now S) (pp + d)))]) (rest := []) hC hK hA hX (c_X5_append l G ad (u_oldText (u_now S (cpR (st_text (x_now S)) tt ll pp d, ll + d, st_pats (x_now S), st_pcnt (x_now S), st_most (x_now S))) (va_cpy (st_text (x_now S)) (x_oldText S) 0 0 120)) (st_text (x_now S) (pp + d)) (ht0 _) (show ll + d < 120 from by omega)) (cwV 1 hC.2.2.2.2 gX4_putLetterForParts_X5_append rfl rfl rfl hd_X5_append ⟨Nat.le_of_ble_eq_true rfl, Nat.le_of_ble_eq_true rfl⟩) (ci := 5) (q := (RX5, TX5, 5)) rfl (q0 := 0) rfl dX4_putLetterForParts_105 rfl hl.1 rfl (Nat.le_of_ble_eq_true rfl) ⟨(Nat.zero_le _), (Nat.zero_le _)⟩ (fun S9 H locs hp9 hX => ?_)
                  rw [hp9] at hX
                  replace hX : HH G A s.heap (wX G ad (u_oldText (u_now S (va_up (cpR (st_text (x_now S)) tt ll pp d) (ll + d) (st_text (x_now S) (pp + d)), ll + d + 1, st_pats (x_now S), st_pcnt (x_now S), st_most (x_now S))) (va_cpy (st_text (x_now S)) (x_oldText S) 0 0 120))) H locs := hX
                  refine lv_iinc (v := nI ((pp + d) + 1)) (lv' := [(8, .int (nI ((pp + d) + 1))), (7, .int (nI (tq))), (6, .int (nI (0))), (5, .int (nI ((x_listed S)))), (4, .int (nI (pp))), (3, .int (nI (st_len (x_now S)))), (0, .ref (ad 24)), (1, .ref (ad 0)), (2, .int (nI (c0)))]) hC.1 hC.2.1 dX4_putLetterForParts_108 hl (k := 0) rfl (n_inc1 _) (by decide) rfl (fun ls hl => ?_)
                  refine lv_goto (tgt := 78) hC.1 hC.2.1 dX4_putLetterForParts_111 (by decide) ?_
                  refine ih78 (d + 1) ?_ ?_ _ _ ls hX (lv_sub hl [0, 1, 2, 3, 4, 5, 6, 7, 8] rfl)
                  · omega
                  · omega
          refine loop78 _ (0) ?_ (Nat.lt_succ_self _) _ _ ls hX (lv_sub hl [0, 1, 2, 3, 4, 5, 6, 7, 8] rfl)
          · omega
        · skip
          refine lv_iconst (v := nI (1)) hC.1 hC.2.1 dX4_putLetterForParts_49 rfl ?_
          refine lv_goto (tgt := 54) hC.1 hC.2.1 dX4_putLetterForParts_50 (by decide) ?_
          refine lv_istore (lv' := [(6, .int (nI (1))), (5, .int (nI (i))), (4, .int (nI (pp))), (3, .int (nI (st_len (x_now S)))), (0, .ref (ad 24)), (1, .ref (ad 0)), (2, .int (nI (c0)))]) hC.1 hC.2.1 dX4_putLetterForParts_54 hl (by decide) rfl (fun ls hl => ?_)
          refine lv_iload hC.1 hC.2.1 dX4_putLetterForParts_56 (lv_at hl 0 rfl) ?_
          refine n_if_eq hC (a := 1) (tgt := 71) dX4_putLetterForParts_58 (by decide) (by decide) (fun c58 => absurd c58 (by decide)) (fun c58 => ?_)
          have hfl : x_ends S i ≤ 120 := by have := (hp0 i (by omega)).2.1; omega
          refine lv_aload_n hC.1 hC.2.1 dX4_putLetterForParts_61 rfl (lv_at hl 4 rfl) ?_
          refine lv_iload hC.1 hC.2.1 dX4_putLetterForParts_62 (lv_at hl 1 rfl) ?_
          refine lv_iconst (v := nI (2)) hC.1 hC.2.1 dX4_putLetterForParts_64 rfl ?_
          refine cv_I (As := [.int (nI (i)), .int (nI (2))]) (rest := []) hC hK hA hX (c_X4_tell l G ad (u_oldText (u_now S (tt, ll, st_pats (x_now S), st_pcnt (x_now S), st_most (x_now S))) (va_cpy (st_text (x_now S)) (x_oldText S) 0 0 120)) (i) (2) (by omega) (by decide) (⟨hn0, hfl⟩)) (cwV 2 hC.2.2.2.2 gX4_putLetterForParts_X4_tell rfl rfl rfl hd_X4_tell ⟨Nat.le_of_ble_eq_true rfl, Nat.le_of_ble_eq_true rfl⟩) (ci := 4) (q := (RX4, TX4, 8)) rfl (q0 := 24) rfl dX4_putLetterForParts_65 rfl hl.1 rfl (Nat.le_of_ble_eq_true rfl) ⟨(Nat.zero_le _), (Nat.zero_le _)⟩ (fun r9 S9 H locs hp9 hX => ?_)
          obtain ⟨h9, hS9⟩ := hp9
          obtain rfl : r9 = nI ((x_begAt S) ((x_ends S) (i))) := by first | exact h9 | (rw [h9]; exact rfl)
          rw [hS9] at hX
          replace hX : HH G A s.heap (wX G ad (u_oldText (u_now S (tt, ll, st_pats (x_now S), st_pcnt (x_now S), st_most (x_now S))) (va_cpy (st_text (x_now S)) (x_oldText S) 0 0 120))) H locs := hX
          refine lv_goto (tgt := 72) hC.1 hC.2.1 dX4_putLetterForParts_68 (by decide) ?_
          obtain ⟨tq, htq⟩ : ∃ tq, tq = (x_begAt S) ((x_ends S) (i)) := ⟨_, rfl⟩
          refine n_top (y := nI tq) (by rw [htq]) ?_
          have hrl := repL_s hp0 (show i < x_listed S by omega)
          have hrp := repP_le hp0 (show i < x_listed S by omega)
          have hrm := repL_m hp0 (r := i + 1) (d := x_listed S - (i + 1)) (by omega)
          rw [show i + 1 + (x_listed S - (i + 1)) = x_listed S by omega] at hrm
          have hrF := repL_F hp0
          have hq := hp0 i (by omega)
          refine lv_istore (lv' := [(7, .int (nI (tq))), (6, .int (nI (1))), (5, .int (nI (i))), (4, .int (nI (pp))), (3, .int (nI (st_len (x_now S)))), (0, .ref (ad 24)), (1, .ref (ad 0)), (2, .int (nI (c0)))]) hC.1 hC.2.1 dX4_putLetterForParts_72 hl (by decide) rfl (fun ls hl => ?_)
          refine lv_iload hC.1 hC.2.1 dX4_putLetterForParts_74 (lv_at hl 3 rfl) ?_
          refine lv_istore (lv' := [(8, .int (nI (pp))), (7, .int (nI (tq))), (6, .int (nI (1))), (5, .int (nI (i))), (4, .int (nI (pp))), (3, .int (nI (st_len (x_now S)))), (0, .ref (ad 24)), (1, .ref (ad 0)), (2, .int (nI (c0)))]) hC.1 hC.2.1 dX4_putLetterForParts_76 hl (by decide) rfl (fun ls hl => ?_)
          have loop78 : ∀ (n9 : Nat) (d : Nat), (pp + d ≤ tq) → tq - (pp + d) < n9 → ∀ (H : Heap) (locs : List Loc) (ls : Array Slot), HH G A s.heap (wX G ad (u_oldText (u_now S (cpR (st_text (x_now S)) tt ll pp d, ll + d, st_pats (x_now S), st_pcnt (x_now S), st_most (x_now S))) (va_cpy (st_text (x_now S)) (x_oldText S) 0 0 120))) H locs → lv_has ls 9 [(8, .int (nI (pp + d))), (7, .int (nI (tq))), (6, .int (nI (1))), (5, .int (nI (i))), (4, .int (nI (pp))), (3, .int (nI (st_len (x_now S)))), (0, .ref (ad 24)), (1, .ref (ad 0)), (2, .int (nI (c0)))] → W p l e { frames := 1, cells := 0, slots := 0, locals := 32 } s m args below meth c H locs 0 0 (EndV G (wX G ad) A (fun S' => S' = u_oldText (u_now S (repF (st_text (x_now S)) c0 (x_begAt S) (x_ends S) (st_len (x_now S)) (x_listed S), st_len (x_now S) + x_listed S - pS (x_begAt S) (x_ends S) (x_listed S), st_pats (x_now S), st_pcnt (x_now S), st_most (x_now S))) (va_cpy (st_text (x_now S)) (x_oldText S) 0 0 120)) below args s 0 0) (F0 m 78 ls []) := by
            intro n9
            induction n9 with
            | zero => intro d hd hn9; exact absurd hn9 (Nat.not_lt_zero _)
            | succ n9 ih78 =>
              intro d hd hn9 H locs ls hX hl
              refine lv_iload hC.1 hC.2.1 dX4_putLetterForParts_78 (lv_at hl 0 rfl) ?_
              refine n_if_lt hC (a := pp + d) (tgt := 114) dX4_putLetterForParts_80 (by decide) (by omega) ?_
              refine lv_iload hC.1 hC.2.1 dX4_putLetterForParts_83 (lv_at hl 0 rfl) ?_
              refine lv_iload hC.1 hC.2.1 dX4_putLetterForParts_85 (lv_at hl 1 rfl) ?_
              refine n_icmp_ge hC (a := pp + d) (b := tq) (tgt := 114) dX4_putLetterForParts_87 (by decide) (by omega) (by omega) (fun c87 => ?_) (fun c87 => ?_)
              · skip
                refine lv_iload hC.1 hC.2.1 dX4_putLetterForParts_114 (lv_at hl 2 rfl) ?_
                refine n_if_eq hC (a := 1) (tgt := 133) dX4_putLetterForParts_116 (by decide) (by decide) (fun c116 => absurd c116 (by decide)) (fun c116 => ?_)
                refine lv_aload_n hC.1 hC.2.1 dX4_putLetterForParts_119 rfl (lv_at hl 7 rfl) ?_
                refine lv_iload_n hC.1 hC.2.1 dX4_putLetterForParts_120 rfl (lv_at hl 8 rfl) ?_
                refine cv_V (As := [.int (nI (c0))]) (rest := []) hC hK hA hX (c_X5_append l G ad (u_oldText (u_now S (cpR (st_text (x_now S)) tt ll pp d, ll + d, st_pats (x_now S), st_pcnt (x_now S), st_most (x_now S))) (va_cpy (st_text (x_now S)) (x_oldText S) 0 0 120)) (c0) hc0 (show ll + d < 120 from by omega)) (cwV 1 hC.2.2.2.2 gX4_putLetterForParts_X5_append rfl rfl rfl hd_X5_append ⟨Nat.le_of_ble_eq_true rfl, Nat.le_of_ble_eq_true rfl⟩) (ci := 5) (q := (RX5, TX5, 5)) rfl (q0 := 0) rfl dX4_putLetterForParts_121 rfl hl.1 rfl (Nat.le_of_ble_eq_true rfl) ⟨(Nat.zero_le _), (Nat.zero_le _)⟩ (fun S9 H locs hp9 hX => ?_)
                rw [hp9] at hX
                replace hX : HH G A s.heap (wX G ad (u_oldText (u_now S (va_up (cpR (st_text (x_now S)) tt ll pp d) (ll + d) (c0), ll + d + 1, st_pats (x_now S), st_pcnt (x_now S), st_most (x_now S))) (va_cpy (st_text (x_now S)) (x_oldText S) 0 0 120))) H locs := hX
                refine lv_aload_n hC.1 hC.2.1 dX4_putLetterForParts_124 rfl (lv_at hl 6 rfl) ?_
                refine lv_iload hC.1 hC.2.1 dX4_putLetterForParts_125 (lv_at hl 3 rfl) ?_
                refine lv_iconst (v := nI (0)) hC.1 hC.2.1 dX4_putLetterForParts_127 rfl ?_
                refine cv_I (As := [.int (nI (i)), .int (nI (0))]) (rest := []) hC hK hA hX (c_X4_tell l G ad (u_oldText (u_now S (va_up (cpR (st_text (x_now S)) tt ll pp d) (ll + d) (c0), ll + d + 1, st_pats (x_now S), st_pcnt (x_now S), st_most (x_now S))) (va_cpy (st_text (x_now S)) (x_oldText S) 0 0 120)) (i) (0) (by omega) (by decide) (⟨hn0, hfl⟩)) (cwV 2 hC.2.2.2.2 gX4_putLetterForParts_X4_tell rfl rfl rfl hd_X4_tell ⟨Nat.le_of_ble_eq_true rfl, Nat.le_of_ble_eq_true rfl⟩) (ci := 4) (q := (RX4, TX4, 8)) rfl (q0 := 24) rfl dX4_putLetterForParts_128 rfl hl.1 rfl (Nat.le_of_ble_eq_true rfl) ⟨(Nat.zero_le _), (Nat.zero_le _)⟩ (fun r9 S9 H locs hp9 hX => ?_)
                obtain ⟨h9, hS9⟩ := hp9
                obtain rfl : r9 = nI ((x_ends S) (i)) := by first | exact h9 | (rw [h9]; exact rfl)
                rw [hS9] at hX
                replace hX : HH G A s.heap (wX G ad (u_oldText (u_now S (va_up (cpR (st_text (x_now S)) tt ll pp d) (ll + d) (c0), ll + d + 1, st_pats (x_now S), st_pcnt (x_now S), st_most (x_now S))) (va_cpy (st_text (x_now S)) (x_oldText S) 0 0 120))) H locs := hX
                refine lv_istore (lv' := [(4, .int (nI ((x_ends S) (i)))), (8, .int (nI (pp + d))), (7, .int (nI (tq))), (6, .int (nI (1))), (5, .int (nI (i))), (3, .int (nI (st_len (x_now S)))), (0, .ref (ad 24)), (1, .ref (ad 0)), (2, .int (nI (c0)))]) hC.1 hC.2.1 dX4_putLetterForParts_131 hl (by decide) rfl (fun ls hl => ?_)
                refine lv_iinc (v := nI (i + 1)) (lv' := [(5, .int (nI (i + 1))), (4, .int (nI ((x_ends S) (i)))), (8, .int (nI (pp + d))), (7, .int (nI (tq))), (6, .int (nI (1))), (3, .int (nI (st_len (x_now S)))), (0, .ref (ad 24)), (1, .ref (ad 0)), (2, .int (nI (c0)))]) hC.1 hC.2.1 dX4_putLetterForParts_133 hl (k := 4) rfl (n_inc1 _) (by decide) rfl (fun ls hl => ?_)
                refine lv_goto (tgt := 31) hC.1 hC.2.1 dX4_putLetterForParts_136 (by decide) ?_
                refine ih31 (i + 1) (va_up (cpR (st_text (x_now S)) tt ll pp d) (ll + d) (c0)) (ll + d + 1) ((x_ends S) (i)) ?_ ?_ ?_ _ _ ls hX (lv_sub hl [0, 1, 5, 6, 7, 8] rfl)
                · omega
                · first | exact Or.inl ⟨by omega, by (obtain rfl : d = tq - pp := (by omega)); subst ht2; subst hl2; subst hp2; subst htq; rfl, by omega, rfl⟩ | exact Or.inr ⟨rfl, by (obtain rfl : d = tq - pp := (by omega)); subst ht2; subst hl2; subst hp2; subst htq; rfl, by omega⟩
                · omega
              · skip
                refine lv_iload hC.1 hC.2.1 dX4_putLetterForParts_90 (lv_at hl 0 rfl) ?_
                refine lv_bipush (v := nI (120)) hC.1 hC.2.1 dX4_putLetterForParts_92 (by decide +kernel) ?_
                refine n_icmp_ge hC (a := pp + d) (b := 120) (tgt := 114) dX4_putLetterForParts_94 (by decide) (by omega) (by decide) (fun c94 => ?_) (fun c94 => ?_)
                · exfalso; omega
                · skip
                  refine lv_aload_n hC.1 hC.2.1 dX4_putLetterForParts_97 rfl (lv_at hl 7 rfl) ?_
                  refine lv_aload_n hC.1 hC.2.1 dX4_putLetterForParts_98 rfl (lv_at hl 6 rfl) ?_
                  refine g_search_oldText hC fi_X4_putLetterForParts_X4 hK hX (wd9 hC 1 rfl) dX4_putLetterForParts_99 ?_
                  refine lv_iload hC.1 hC.2.1 dX4_putLetterForParts_102 (lv_at hl 0 rfl) ?_
                  refine l_oldText hC hK hX (i := pp + d) (by omega) dX4_putLetterForParts_104 (v := st_text (x_now S) (pp + d)) (va_cpy_0 (by omega)) ?_
                  refine cv_V (As := [.int (nI (st_text (x_now S) (pp + d)))]) (rest := []) hC hK hA hX (c_X5_append l G ad (u_oldText (u_now S (cpR (st_text (x_now S)) tt ll pp d, ll + d, st_pats (x_now S), st_pcnt (x_now S), st_most (x_now S))) (va_cpy (st_text (x_now S)) (x_oldText S) 0 0 120)) (st_text (x_now S) (pp + d)) (ht0 _) (show ll + d < 120 from by omega)) (cwV 1 hC.2.2.2.2 gX4_putLetterForParts_X5_append rfl rfl rfl hd_X5_append ⟨Nat.le_of_ble_eq_true rfl, Nat.le_of_ble_eq_true rfl⟩) (ci := 5) (q := (RX5, TX5, 5)) rfl (q0 := 0) rfl dX4_putLetterForParts_105 rfl hl.1 rfl (Nat.le_of_ble_eq_true rfl) ⟨(Nat.zero_le _), (Nat.zero_le _)⟩ (fun S9 H locs hp9 hX => ?_)
                  rw [hp9] at hX
                  replace hX : HH G A s.heap (wX G ad (u_oldText (u_now S (va_up (cpR (st_text (x_now S)) tt ll pp d) (ll + d) (st_text (x_now S) (pp + d)), ll + d + 1, st_pats (x_now S), st_pcnt (x_now S), st_most (x_now S))) (va_cpy (st_text (x_now S)) (x_oldText S) 0 0 120))) H locs := hX
                  refine lv_iinc (v := nI ((pp + d) + 1)) (lv' := [(8, .int (nI ((pp + d) + 1))), (7, .int (nI (tq))), (6, .int (nI (1))), (5, .int (nI (i))), (4, .int (nI (pp))), (3, .int (nI (st_len (x_now S)))), (0, .ref (ad 24)), (1, .ref (ad 0)), (2, .int (nI (c0)))]) hC.1 hC.2.1 dX4_putLetterForParts_108 hl (k := 0) rfl (n_inc1 _) (by decide) rfl (fun ls hl => ?_)
                  refine lv_goto (tgt := 78) hC.1 hC.2.1 dX4_putLetterForParts_111 (by decide) ?_
                  refine ih78 (d + 1) ?_ ?_ _ _ ls hX (lv_sub hl [0, 1, 2, 3, 4, 5, 6, 7, 8] rfl)
                  · omega
                  · omega
          refine loop78 _ (0) ?_ (Nat.lt_succ_self _) _ _ ls hX (lv_sub hl [0, 1, 2, 3, 4, 5, 6, 7, 8] rfl)
          · omega
  refine loop31 _ (0) (st_text (x_now S)) (0) (0) ?_ ?_ (Nat.lt_succ_self _) _ _ ls hX (lv_sub hl [0, 1, 2, 3, 4, 5] rfl)
  · omega
  · exact Or.inl ⟨Nat.zero_le _, rfl, rfl, rfl⟩
