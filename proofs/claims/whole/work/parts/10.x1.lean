set_option maxHeartbeats 4000000 in
set_option maxRecDepth 100000 in
theorem c_X7_isLetter (l : Launch) (G : GX) (c0 : Nat) (hc0 : c0 < 65536) : CtI l yX7_isLetter wsX7_isLetter { frames := 0, cells := 0, slots := 0, locals := 0 } G wP (()) [.int (nI (c0))] (fun r _ => r = bI (isLet c0)) 0 0 := by
  refine CtI.of (cc := cX7_isLetter) (maxL := 1) (ret := some .boolean) (by decide +kernel) rfl (Nat.le_of_ble_eq_true rfl) ?_
  intro p e s m args below meth c ls A hC hr hlk hin hK hA hX hl
  have hl : lv_has ls 1 [(0, .int (nI (c0)))] := hl
  refine lv_iload_n hC.1 hC.2.1 dX7_isLetter_0 rfl (lv_at hl 0 rfl) ?_
  refine lv_bipush (v := nI (97)) hC.1 hC.2.1 dX7_isLetter_1 (by decide +kernel) ?_
  refine n_icmp_lt hC (a := c0) (b := 97) (tgt := 16) dX7_isLetter_3 (by decide) (by omega) (by decide) (fun c3 => ?_) (fun c3 => ?_)
  · skip
    refine lv_iconst (v := nI (0)) hC.1 hC.2.1 dX7_isLetter_16 rfl ?_
    refine r_zreturn hC hr hlk hX dX7_isLetter_17 rfl ?_
    first | exact bI_t (by omega) | exact bI_f (by omega)
  · skip
    refine lv_iload_n hC.1 hC.2.1 dX7_isLetter_6 rfl (lv_at hl 0 rfl) ?_
    refine lv_bipush (v := nI (122)) hC.1 hC.2.1 dX7_isLetter_7 (by decide +kernel) ?_
    refine n_icmp_gt hC (a := c0) (b := 122) (tgt := 16) dX7_isLetter_9 (by decide) (by omega) (by decide) (fun c9 => ?_) (fun c9 => ?_)
    · skip
      refine lv_iconst (v := nI (0)) hC.1 hC.2.1 dX7_isLetter_16 rfl ?_
      refine r_zreturn hC hr hlk hX dX7_isLetter_17 rfl ?_
      first | exact bI_t (by omega) | exact bI_f (by omega)
    · skip
      refine lv_iconst (v := nI (1)) hC.1 hC.2.1 dX7_isLetter_12 rfl ?_
      refine lv_goto (tgt := 17) hC.1 hC.2.1 dX7_isLetter_13 (by decide) ?_
      refine r_zreturn hC hr hlk hX dX7_isLetter_17 rfl ?_
      first | exact bI_t (by omega) | exact bI_f (by omega)
theorem hd_X7_isLetter_s : yX7_isLetter.cls ≠ "java/lang/invoke/MethodHandle" ∧ yX7_isLetter.cls ≠ "java/lang/invoke/VarHandle" ∧ (parseMethodDescriptor yX7_isLetter.desc).map (fun d => d.parameters.length) = some 1 := by decide +kernel
set_option maxHeartbeats 4000000 in
set_option maxRecDepth 100000 in
theorem c_X7_isSign (l : Launch) (G : GX) (c0 : Nat) (hc0 : c0 < 65536) : CtI l yX7_isSign wsX7_isSign { frames := 1, cells := 0, slots := 0, locals := 20 } G wP (()) [.int (nI (c0))] (fun r _ => r = bI (isSgn c0)) 0 0 := by
  refine CtI.of (cc := cX7_isSign) (maxL := 1) (ret := some .boolean) (by decide +kernel) rfl (Nat.le_of_ble_eq_true rfl) ?_
  intro p e s m args below meth c ls A hC hr hlk hin hK hA hX hl
  have hl : lv_has ls 1 [(0, .int (nI (c0)))] := hl
  refine lv_iload_n hC.1 hC.2.1 dX7_isSign_0 rfl (lv_at hl 0 rfl) ?_
  refine ps_I (As := [.int (nI (c0))]) (rest := []) hC hK hA hX (c_X7_isLetter l G (c0) (by omega)) (va_cwS 1 hC.2.2.2.2 gX7_isSign_X7_isLetter rfl rfl rfl hd_X7_isLetter_s ⟨Nat.le_of_ble_eq_true rfl, Nat.le_of_ble_eq_true rfl⟩) dX7_isSign_1 rfl hl.1 rfl (Nat.le_of_ble_eq_true rfl) ⟨(Nat.zero_le _), (Nat.zero_le _)⟩ (fun r9 S9 H locs hp9 hX => ?_)
  obtain rfl := hp9
  replace hX : HH G A s.heap (wP ()) H locs := hX
  refine b_if_ne hC (b := isLet c0) (tgt := 13) dX7_isSign_4 (by decide) (fun c4 => ?_) (fun c4 => ?_)
  · skip
    refine lv_iconst (v := nI (1)) hC.1 hC.2.1 dX7_isSign_13 rfl ?_
    refine lv_goto (tgt := 18) hC.1 hC.2.1 dX7_isSign_14 (by decide) ?_
    refine r_zreturn hC hr hlk hX dX7_isSign_18 rfl ?_
    first | exact bI_t (isSgn_of (Or.inl ‹_›)) | exact bI_t (isSgn_of (Or.inr (by omega))) | exact bI_f (by simp_all)
  · skip
    refine lv_iload_n hC.1 hC.2.1 dX7_isSign_7 rfl (lv_at hl 0 rfl) ?_
    refine lv_bipush (v := nI (32)) hC.1 hC.2.1 dX7_isSign_8 (by decide +kernel) ?_
    refine n_icmp_ne hC (a := c0) (b := 32) (tgt := 17) dX7_isSign_10 (by decide) (by omega) (by decide) (fun c10 => ?_) (fun c10 => ?_)
    · skip
      refine lv_iconst (v := nI (0)) hC.1 hC.2.1 dX7_isSign_17 rfl ?_
      refine r_zreturn hC hr hlk hX dX7_isSign_18 rfl ?_
      first | exact bI_t (isSgn_of (Or.inl ‹_›)) | exact bI_t (isSgn_of (Or.inr (by omega))) | exact bI_f (by simp_all)
    · skip
      refine lv_iconst (v := nI (1)) hC.1 hC.2.1 dX7_isSign_13 rfl ?_
      refine lv_goto (tgt := 18) hC.1 hC.2.1 dX7_isSign_14 (by decide) ?_
      refine r_zreturn hC hr hlk hX dX7_isSign_18 rfl ?_
      first | exact bI_t (isSgn_of (Or.inl ‹_›)) | exact bI_t (isSgn_of (Or.inr (by omega))) | exact bI_f (by simp_all)
theorem fi_X5_signAt_X5 : ∀ w ∈ wsX50, w ∈ wsX5_signAt := by decide +kernel
set_option maxHeartbeats 4000000 in
set_option maxRecDepth 100000 in
theorem c_X5_signAt (l : Launch) (G : GX) (ad : Nat → Nat) (S : XS) (i0 : Nat) (hi0 : i0 < 120) (ht0 : st_text (x_now S) i0 < 65536) : CtI l yX5_signAt wsX5_signAt { frames := 0, cells := 0, slots := 0, locals := 0 } G (wX G ad) (S) [.ref (ad 0), .int (nI (i0))] (fun r S' => r = nI (st_text (x_now S) i0) ∧ S' = S) 0 0 := by
  refine CtI.of (cc := cX5_signAt) (maxL := 2) (ret := some .char) (by decide +kernel) rfl (Nat.le_of_ble_eq_true rfl) ?_
  intro p e s m args below meth c ls A hC hr hlk hin hK hA hX hl
  have hl : lv_has ls 2 [(0, .ref (ad 0)), (1, .int (nI (i0)))] := hl
  refine lv_iload_n hC.1 hC.2.1 dX5_signAt_0 rfl (lv_at hl 1 rfl) ?_
  refine n_if_lt hC (a := i0) (tgt := 19) dX5_signAt_1 (by decide) (by omega) ?_
  refine lv_iload_n hC.1 hC.2.1 dX5_signAt_4 rfl (lv_at hl 1 rfl) ?_
  refine lv_bipush (v := nI (120)) hC.1 hC.2.1 dX5_signAt_5 (by decide +kernel) ?_
  refine n_icmp_ge hC (a := i0) (b := 120) (tgt := 19) dX5_signAt_7 (by decide) (by omega) (by decide) (fun c7 => ?_) (fun c7 => ?_)
  · exfalso; omega
  · skip
    refine lv_aload_n hC.1 hC.2.1 dX5_signAt_10 rfl (lv_at hl 0 rfl) ?_
    refine g_text (k := 0) (by decide) hC fi_X5_signAt_X5 hK hX (wd9 hC 1 rfl) dX5_signAt_11 ?_
    refine lv_iload_n hC.1 hC.2.1 dX5_signAt_14 rfl (lv_at hl 1 rfl) ?_
    refine l_text (k := 0) (by decide) hC hK hX (i := i0) (by omega) dX5_signAt_15 (v := (st_text (x_now S)) i0) rfl ?_
    refine lv_goto (tgt := 21) hC.1 hC.2.1 dX5_signAt_16 (by decide) ?_
    refine r_zreturn hC hr hlk hX dX5_signAt_21 (nar_char ht0) ?_
    exact ⟨rfl, rfl⟩
theorem fi_X5_append_X5 : ∀ w ∈ wsX50, w ∈ wsX5_append := by decide +kernel
set_option maxHeartbeats 4000000 in
set_option maxRecDepth 100000 in
theorem c_X5_append (l : Launch) (G : GX) (ad : Nat → Nat) (S : XS) (c0 : Nat) (hc0 : c0 < 65536) (hl0 : st_len (x_now S) < 120) : CtV l yX5_append wsX5_append { frames := 0, cells := 0, slots := 0, locals := 0 } G (wX G ad) (S) [.ref (ad 0), .int (nI (c0))] (fun S' => S' = u_now S (va_up (st_text (x_now S)) (st_len (x_now S)) c0, st_len (x_now S) + 1, st_pats (x_now S), st_pcnt (x_now S), st_most (x_now S))) 0 0 := by
  refine CtV.of (cc := cX5_append) (maxL := 2) (ret := none) (by decide +kernel) rfl (Nat.le_of_ble_eq_true rfl) ?_
  intro p e s m args below meth c ls A hC hr hlk hin hK hA hX hl
  have hl : lv_has ls 2 [(0, .ref (ad 0)), (1, .int (nI (c0)))] := hl
  refine lv_aload_n hC.1 hC.2.1 dX5_append_0 rfl (lv_at hl 0 rfl) ?_
  refine g_len (k := 0) (by decide) hC fi_X5_append_X5 hK hX (wd9 hC 1 rfl) dX5_append_1 (v := st_len (x_now S)) rfl ?_
  refine n_if_lt hC (a := st_len (x_now S)) (tgt := 36) dX5_append_4 (by decide) (by omega) ?_
  refine lv_aload_n hC.1 hC.2.1 dX5_append_7 rfl (lv_at hl 0 rfl) ?_
  refine g_len (k := 0) (by decide) hC fi_X5_append_X5 hK hX (wd9 hC 1 rfl) dX5_append_8 (v := st_len (x_now S)) rfl ?_
  refine lv_bipush (v := nI (120)) hC.1 hC.2.1 dX5_append_11 (by decide +kernel) ?_
  refine n_icmp_ge hC (a := st_len (x_now S)) (b := 120) (tgt := 36) dX5_append_13 (by decide) (by omega) (by decide) (fun c13 => ?_) (fun c13 => ?_)
  · exfalso; omega
  · skip
    refine lv_aload_n hC.1 hC.2.1 dX5_append_16 rfl (lv_at hl 0 rfl) ?_
    refine g_text (k := 0) (by decide) hC fi_X5_append_X5 hK hX (wd9 hC 2 rfl) dX5_append_17 ?_
    refine lv_aload_n hC.1 hC.2.1 dX5_append_20 rfl (lv_at hl 0 rfl) ?_
    refine g_len (k := 0) (by decide) hC fi_X5_append_X5 hK hX (wd9 hC 1 rfl) dX5_append_21 (v := st_len (x_now S)) rfl ?_
    refine lv_iload_n hC.1 hC.2.1 dX5_append_24 rfl (lv_at hl 1 rfl) ?_
    refine s_text (k := 0) (by decide) hC hK hX (i := st_len (x_now S)) (v := c0) (by omega) (by omega) dX5_append_25 (fun H locs hX => ?_)
    replace hX : HH G A s.heap (wX G ad (u_now S (va_up (st_text (x_now S)) (st_len (x_now S)) (c0), st_len (x_now S), st_pats (x_now S), st_pcnt (x_now S), st_most (x_now S)))) H locs := hX
    refine lv_aload_n hC.1 hC.2.1 dX5_append_26 rfl (lv_at hl 0 rfl) ?_
    refine lv_dup hC.1 hC.2.1 dX5_append_27 rfl ?_
    refine g_len (k := 0) (by decide) hC fi_X5_append_X5 hK hX (wd9 hC 1 rfl) dX5_append_28 (v := st_len (x_now S)) rfl ?_
    refine lv_iconst (v := nI (1)) hC.1 hC.2.1 dX5_append_31 rfl ?_
    refine n_add hC (a := st_len (x_now S)) (b := 1) dX5_append_32 ?_
    refine p_len (k := 0) (by decide) hC fi_X5_append_X5 hK hX (v := (st_len (x_now S)) + (1)) (wd9 hC 1 rfl) dX5_append_33 (fun H locs hX => ?_)
    replace hX : HH G A s.heap (wX G ad (u_now S (va_up (st_text (x_now S)) (st_len (x_now S)) (c0), (st_len (x_now S)) + (1), st_pats (x_now S), st_pcnt (x_now S), st_most (x_now S)))) H locs := hX
    refine r_return hC hr hlk hX dX5_append_36 ?_
    exact rfl
theorem fi_X5_countBlanks_X5 : ∀ w ∈ wsX50, w ∈ wsX5_countBlanks := by decide +kernel
theorem hd_X5_signAt : yX5_signAt.cls = RX5 ∧ yX5_signAt.cls ≠ "java/lang/invoke/MethodHandle" ∧ yX5_signAt.cls ≠ "java/lang/invoke/VarHandle" ∧ (parseMethodDescriptor yX5_signAt.desc).map (fun d => d.parameters.length) = some 1 := by decide +kernel
set_option maxHeartbeats 4000000 in
set_option maxRecDepth 100000 in
theorem c_X5_countBlanks (l : Launch) (G : GX) (ad : Nat → Nat) (S : XS) (hl0 : st_len (x_now S) ≤ 120) (ht0 : ∀ i, st_text (x_now S) i < 65536) : CtI l yX5_countBlanks wsX5_countBlanks { frames := 1, cells := 0, slots := 0, locals := 21 } G (wX G ad) (S) [.ref (ad 0)] (fun r S' => r = nI (cntB (st_text (x_now S)) (st_len (x_now S))) ∧ S' = S) 0 0 := by
  refine CtI.of (cc := cX5_countBlanks) (maxL := 3) (ret := some .int) (by decide +kernel) rfl (Nat.le_of_ble_eq_true rfl) ?_
  intro p e s m args below meth c ls A hC hr hlk hin hK hA hX hl
  have hl : lv_has ls 3 [(0, .ref (ad 0))] := hl
  have hcb := cntB_le (st_text (x_now S))
  refine lv_iconst (v := nI (0)) hC.1 hC.2.1 dX5_countBlanks_0 rfl ?_
  refine lv_istore_n (lv' := [(1, .int (nI (0))), (0, .ref (ad 0))]) hC.1 hC.2.1 dX5_countBlanks_1 rfl hl (by decide) rfl (fun ls hl => ?_)
  refine lv_iconst (v := nI (0)) hC.1 hC.2.1 dX5_countBlanks_2 rfl ?_
  refine lv_istore_n (lv' := [(2, .int (nI (0))), (1, .int (nI (0))), (0, .ref (ad 0))]) hC.1 hC.2.1 dX5_countBlanks_3 rfl hl (by decide) rfl (fun ls hl => ?_)
  have loop4 : ∀ (n9 : Nat) (i : Nat), (i ≤ st_len (x_now S)) → st_len (x_now S) - i < n9 → ∀ (H : Heap) (locs : List Loc) (ls : Array Slot), HH G A s.heap (wX G ad (S)) H locs → lv_has ls 3 [(2, .int (nI (i))), (1, .int (nI (cntB (st_text (x_now S)) i))), (0, .ref (ad 0))] → W p l e { frames := 1, cells := 0, slots := 0, locals := 21 } s m args below meth c H locs 0 0 (EndI G (wX G ad) A (fun r S' => r = nI (cntB (st_text (x_now S)) (st_len (x_now S))) ∧ S' = S) below args s 0 0) (F0 m 4 ls []) := by
    intro n9
    induction n9 with
    | zero => intro i hi hn9; exact absurd hn9 (Nat.not_lt_zero _)
    | succ n9 ih4 =>
      intro i hi hn9 H locs ls hX hl
      refine lv_iload_n hC.1 hC.2.1 dX5_countBlanks_4 rfl (lv_at hl 0 rfl) ?_
      refine lv_aload_n hC.1 hC.2.1 dX5_countBlanks_5 rfl (lv_at hl 2 rfl) ?_
      refine g_len (k := 0) (by decide) hC fi_X5_countBlanks_X5 hK hX (wd9 hC 1 rfl) dX5_countBlanks_6 (v := st_len (x_now S)) rfl ?_
      refine n_icmp_ge hC (a := i) (b := st_len (x_now S)) (tgt := 31) dX5_countBlanks_9 (by decide) (by omega) (by omega) (fun c9 => ?_) (fun c9 => ?_)
      · skip
        refine lv_iload_n hC.1 hC.2.1 dX5_countBlanks_31 rfl (lv_at hl 1 rfl) ?_
        refine r_ireturn hC hr hlk hX dX5_countBlanks_32 ?_
        exact ⟨by rw [show i = st_len (x_now S) from by omega], rfl⟩
      · skip
        refine lv_aload_n hC.1 hC.2.1 dX5_countBlanks_12 rfl (lv_at hl 2 rfl) ?_
        refine lv_iload_n hC.1 hC.2.1 dX5_countBlanks_13 rfl (lv_at hl 0 rfl) ?_
        refine cv_I (As := [.int (nI (i))]) (rest := []) hC hK hA hX (c_X5_signAt l G ad (S) (i) (by omega) (ht0 _)) (cwV 1 hC.2.2.2.2 gX5_countBlanks_X5_signAt rfl rfl rfl hd_X5_signAt ⟨Nat.le_of_ble_eq_true rfl, Nat.le_of_ble_eq_true rfl⟩) (ci := 5) (q := (RX5, TX5, 5)) rfl (q0 := 0) rfl dX5_countBlanks_14 rfl hl.1 rfl (Nat.le_of_ble_eq_true rfl) ⟨(Nat.zero_le _), (Nat.zero_le _)⟩ (fun r9 S9 H locs hp9 hX => ?_)
        obtain ⟨rfl, hS9⟩ := hp9
        rw [hS9] at hX
        replace hX : HH G A s.heap (wX G ad (S)) H locs := hX
        refine lv_bipush (v := nI (32)) hC.1 hC.2.1 dX5_countBlanks_17 (by decide +kernel) ?_
        refine n_icmp_ne hC (a := (st_text (x_now S)) i) (b := 32) (tgt := 25) dX5_countBlanks_19 (by decide) (by have := ht0 i; omega) (by decide) (fun c19 => ?_) (fun c19 => ?_)
        · skip
          refine lv_iinc (v := nI (i + 1)) (lv' := [(2, .int (nI (i + 1))), (1, .int (nI (cntB (st_text (x_now S)) i))), (0, .ref (ad 0))]) hC.1 hC.2.1 dX5_countBlanks_25 hl (k := 0) rfl (n_inc1 _) (by decide) rfl (fun ls hl => ?_)
          refine lv_goto (tgt := 4) hC.1 hC.2.1 dX5_countBlanks_28 (by decide) ?_
          refine ih4 (i + 1) ?_ ?_ _ _ ls hX (by first | (rw [cntB_t (by assumption)]; exact lv_sub hl [0, 1, 2] rfl) | (rw [cntB_f (by assumption)]; exact lv_sub hl [0, 1, 2] rfl))
          · omega
          · omega
        · skip
          refine lv_iinc (v := nI ((cntB (st_text (x_now S)) i) + 1)) (lv' := [(1, .int (nI ((cntB (st_text (x_now S)) i) + 1))), (2, .int (nI (i))), (0, .ref (ad 0))]) hC.1 hC.2.1 dX5_countBlanks_22 hl (k := 1) rfl (n_inc1 _) (by decide) rfl (fun ls hl => ?_)
          refine lv_iinc (v := nI (i + 1)) (lv' := [(2, .int (nI (i + 1))), (1, .int (nI ((cntB (st_text (x_now S)) i) + 1))), (0, .ref (ad 0))]) hC.1 hC.2.1 dX5_countBlanks_25 hl (k := 1) rfl (n_inc1 _) (by decide) rfl (fun ls hl => ?_)
          refine lv_goto (tgt := 4) hC.1 hC.2.1 dX5_countBlanks_28 (by decide) ?_
          refine ih4 (i + 1) ?_ ?_ _ _ ls hX (by first | (rw [cntB_t (by assumption)]; exact lv_sub hl [0, 1, 2] rfl) | (rw [cntB_f (by assumption)]; exact lv_sub hl [0, 1, 2] rfl))
          · omega
          · omega
  refine loop4 _ (0) ?_ (Nat.lt_succ_self _) _ _ ls hX (lv_sub hl [0, 1, 2] rfl)
  · omega
theorem fi_X5_patternOrNull_X5 : ∀ w ∈ wsX50, w ∈ wsX5_patternOrNull := by decide +kernel
set_option maxHeartbeats 4000000 in
set_option maxRecDepth 100000 in
theorem c_X5_patternOrNull (l : Launch) (G : GX) (ad : Nat → Nat) (S : XS) (p0 : Int32) (hc0 : st_pcnt (x_now S) ≤ 6) : CtQ l yX5_patternOrNull wsX5_patternOrNull { frames := 0, cells := 0, slots := 0, locals := 0 } G (wX G ad) (S) [.ref (ad 0), .int (p0)] (fun r S' => ((∃ j, p0 = nI j ∧ j < st_pcnt (x_now S) ∧ r = st_pats (x_now S) j) ∨ ((p0 < 0 ∨ nI (st_pcnt (x_now S)) ≤ p0) ∧ r = none)) ∧ S' = S) 0 0 := by
  refine CtQ.of (cc := cX5_patternOrNull) (maxL := 2) (ret := some (.object "SlipSearch$Pattern")) (by decide +kernel) rfl (Nat.le_of_ble_eq_true rfl) ?_
  intro p e s m args below meth c ls A hC hr hlk hin hK hA hX hl
  have hl : lv_has ls 2 [(0, .ref (ad 0)), (1, .int (p0))] := hl
  refine lv_iload_n hC.1 hC.2.1 dX5_patternOrNull_0 rfl (lv_at hl 1 rfl) ?_
  refine lv_if_lt hC.1 hC.2.1 (x := p0) (tgt := 18) dX5_patternOrNull_1 (by decide) (fun c1 => ?_) (fun c1 => ?_)
  · skip
    refine lv_null hC.1 hC.2.1 dX5_patternOrNull_18 ?_
    refine W.eq (g2 := F0 m 19 ls [va_rf none]) rfl ?_
    refine r_areturn hC hr hlk hX dX5_patternOrNull_19 ?_
    first | exact ⟨Or.inr ⟨Or.inl c1, rfl⟩, rfl⟩ | exact ⟨Or.inr ⟨Or.inr (nI_le (by omega) (by omega)), rfl⟩, rfl⟩
  · skip
    obtain ⟨p0_n, h_p0, rfl⟩ := nI_of c1
    refine lv_iload_n hC.1 hC.2.1 dX5_patternOrNull_4 rfl (lv_at hl 1 rfl) ?_
    refine lv_aload_n hC.1 hC.2.1 dX5_patternOrNull_5 rfl (lv_at hl 0 rfl) ?_
    refine g_pcnt (k := 0) (by decide) hC fi_X5_patternOrNull_X5 hK hX (wd9 hC 1 rfl) dX5_patternOrNull_6 (v := st_pcnt (x_now S)) rfl ?_
    refine n_icmp_ge hC (a := p0_n) (b := st_pcnt (x_now S)) (tgt := 18) dX5_patternOrNull_9 (by decide) (by omega) (by omega) (fun c9 => ?_) (fun c9 => ?_)
    · skip
      refine lv_null hC.1 hC.2.1 dX5_patternOrNull_18 ?_
      refine W.eq (g2 := F0 m 19 ls [va_rf none]) rfl ?_
      refine r_areturn hC hr hlk hX dX5_patternOrNull_19 ?_
      first | exact ⟨Or.inr ⟨Or.inl c1, rfl⟩, rfl⟩ | exact ⟨Or.inr ⟨Or.inr (nI_le (by omega) (by omega)), rfl⟩, rfl⟩
    · skip
      refine lv_iload_n hC.1 hC.2.1 dX5_patternOrNull_12 rfl (lv_at hl 1 rfl) ?_
      refine lv_bipush (v := nI (6)) hC.1 hC.2.1 dX5_patternOrNull_13 (by decide +kernel) ?_
      refine n_icmp_lt hC (a := p0_n) (b := 6) (tgt := 20) dX5_patternOrNull_15 (by decide) (by omega) (by decide) (fun c15 => ?_) (fun c15 => ?_)
      · skip
        refine lv_aload_n hC.1 hC.2.1 dX5_patternOrNull_20 rfl (lv_at hl 0 rfl) ?_
        refine g_pats (k := 0) (by decide) hC fi_X5_patternOrNull_X5 hK hX (wd9 hC 2 rfl) dX5_patternOrNull_21 ?_
        refine lv_iload_n hC.1 hC.2.1 dX5_patternOrNull_24 rfl (lv_at hl 1 rfl) ?_
        refine l_pats (k := 0) (by decide) hC hK hX (i := p0_n) (by omega) dX5_patternOrNull_25 ?_
        refine n_topr (y := (st_pats (x_now S)) p0_n) rfl ?_
        refine r_areturn hC hr hlk hX dX5_patternOrNull_26 ?_
        exact ⟨Or.inl ⟨p0_n, rfl, by omega, rfl⟩, rfl⟩
      · exfalso; omega
theorem fi_X5_addLast_X5 : ∀ w ∈ wsX50, w ∈ wsX5_addLast := by decide +kernel
set_option maxHeartbeats 4000000 in
set_option maxRecDepth 100000 in
theorem c_X5_addLast (l : Launch) (G : GX) (ad : Nat → Nat) (S : XS) (a0 : Nat) (hc0 : st_pcnt (x_now S) < 6) (ha0 : ∃ (j : Nat) (q : PatD), (x_pool S)[j]? = some q ∧ q.1 = a0) : CtV l yX5_addLast wsX5_addLast { frames := 0, cells := 0, slots := 0, locals := 0 } G (wX G ad) (S) [.ref (ad 0), .ref (a0)] (fun S' => S' = u_now S (st_text (x_now S), st_len (x_now S), va_up (st_pats (x_now S)) (st_pcnt (x_now S)) (some a0), st_pcnt (x_now S) + 1, st_most (x_now S))) 0 0 := by
  refine CtV.of (cc := cX5_addLast) (maxL := 2) (ret := none) (by decide +kernel) rfl (Nat.le_of_ble_eq_true rfl) ?_
  intro p e s m args below meth c ls A hC hr hlk hin hK hA hX hl
  have hl : lv_has ls 2 [(0, .ref (ad 0)), (1, .ref (a0))] := hl
  refine lv_aload_n hC.1 hC.2.1 dX5_addLast_0 rfl (lv_at hl 0 rfl) ?_
  refine g_pcnt (k := 0) (by decide) hC fi_X5_addLast_X5 hK hX (wd9 hC 1 rfl) dX5_addLast_1 (v := st_pcnt (x_now S)) rfl ?_
  refine n_if_lt hC (a := st_pcnt (x_now S)) (tgt := 36) dX5_addLast_4 (by decide) (by omega) ?_
  refine lv_aload_n hC.1 hC.2.1 dX5_addLast_7 rfl (lv_at hl 0 rfl) ?_
  refine g_pcnt (k := 0) (by decide) hC fi_X5_addLast_X5 hK hX (wd9 hC 1 rfl) dX5_addLast_8 (v := st_pcnt (x_now S)) rfl ?_
  refine lv_bipush (v := nI (6)) hC.1 hC.2.1 dX5_addLast_11 (by decide +kernel) ?_
  refine n_icmp_ge hC (a := st_pcnt (x_now S)) (b := 6) (tgt := 36) dX5_addLast_13 (by decide) (by omega) (by decide) (fun c13 => ?_) (fun c13 => ?_)
  · exfalso; omega
  · skip
    refine lv_aload_n hC.1 hC.2.1 dX5_addLast_16 rfl (lv_at hl 0 rfl) ?_
    refine g_pats (k := 0) (by decide) hC fi_X5_addLast_X5 hK hX (wd9 hC 2 rfl) dX5_addLast_17 ?_
    refine lv_aload_n hC.1 hC.2.1 dX5_addLast_20 rfl (lv_at hl 0 rfl) ?_
    refine g_pcnt (k := 0) (by decide) hC fi_X5_addLast_X5 hK hX (wd9 hC 1 rfl) dX5_addLast_21 (v := st_pcnt (x_now S)) rfl ?_
    refine lv_aload_n hC.1 hC.2.1 dX5_addLast_24 rfl (lv_at hl 1 rfl) ?_
    refine s_pats (k := 0) (by decide) hC hK hX (i := st_pcnt (x_now S)) (v := some (a0)) (by omega) (fun a h => by cases h; exact ha0) dX5_addLast_25 (fun H locs hX => ?_)
    replace hX : HH G A s.heap (wX G ad (u_now S (st_text (x_now S), st_len (x_now S), va_up (st_pats (x_now S)) (st_pcnt (x_now S)) (some (a0)), st_pcnt (x_now S), st_most (x_now S)))) H locs := hX
    refine lv_aload_n hC.1 hC.2.1 dX5_addLast_26 rfl (lv_at hl 0 rfl) ?_
    refine lv_dup hC.1 hC.2.1 dX5_addLast_27 rfl ?_
    refine g_pcnt (k := 0) (by decide) hC fi_X5_addLast_X5 hK hX (wd9 hC 1 rfl) dX5_addLast_28 (v := st_pcnt (x_now S)) rfl ?_
    refine lv_iconst (v := nI (1)) hC.1 hC.2.1 dX5_addLast_31 rfl ?_
    refine n_add hC (a := st_pcnt (x_now S)) (b := 1) dX5_addLast_32 ?_
    refine p_pcnt (k := 0) (by decide) hC fi_X5_addLast_X5 hK hX (v := (st_pcnt (x_now S)) + (1)) (wd9 hC 1 rfl) dX5_addLast_33 (fun H locs hX => ?_)
    replace hX : HH G A s.heap (wX G ad (u_now S (st_text (x_now S), st_len (x_now S), va_up (st_pats (x_now S)) (st_pcnt (x_now S)) (some (a0)), (st_pcnt (x_now S)) + (1), st_most (x_now S)))) H locs := hX
    refine r_return hC hr hlk hX dX5_addLast_36 ?_
    exact rfl
theorem fi_X5_removeNumber_X5 : ∀ w ∈ wsX50, w ∈ wsX5_removeNumber := by decide +kernel
set_option maxHeartbeats 4000000 in
set_option maxRecDepth 100000 in
theorem c_X5_removeNumber (l : Launch) (G : GX) (ad : Nat → Nat) (S : XS) (j0 : Nat) (hj0 : j0 < st_pcnt (x_now S)) (hc0 : st_pcnt (x_now S) ≤ 6) (hp0 : inPool S (st_pats (x_now S))) : CtV l yX5_removeNumber wsX5_removeNumber { frames := 0, cells := 0, slots := 0, locals := 0 } G (wX G ad) (S) [.ref (ad 0), .int (nI (j0))] (fun S' => S' = u_now S (st_text (x_now S), st_len (x_now S), va_up (remP (st_pats (x_now S)) j0 5) 5 none, st_pcnt (x_now S) - 1, st_most (x_now S))) 0 0 := by
  refine CtV.of (cc := cX5_removeNumber) (maxL := 3) (ret := none) (by decide +kernel) rfl (Nat.le_of_ble_eq_true rfl) ?_
  intro p e s m args below meth c ls A hC hr hlk hin hK hA hX hl
  have hl : lv_has ls 3 [(0, .ref (ad 0)), (1, .int (nI (j0)))] := hl
  refine lv_iconst (v := nI (0)) hC.1 hC.2.1 dX5_removeNumber_0 rfl ?_
  refine lv_istore_n (lv' := [(2, .int (nI (0))), (0, .ref (ad 0)), (1, .int (nI (j0)))]) hC.1 hC.2.1 dX5_removeNumber_1 rfl hl (by decide) rfl (fun ls hl => ?_)
  have loop2 : ∀ (n9 : Nat) (i : Nat), (i ≤ 5) → 5 - i < n9 → ∀ (H : Heap) (locs : List Loc) (ls : Array Slot), HH G A s.heap (wX G ad (u_now S (st_text (x_now S), st_len (x_now S), remP (st_pats (x_now S)) j0 i, st_pcnt (x_now S), st_most (x_now S)))) H locs → lv_has ls 3 [(2, .int (nI (i))), (0, .ref (ad 0)), (1, .int (nI (j0)))] → W p l e { frames := 0, cells := 0, slots := 0, locals := 0 } s m args below meth c H locs 0 0 (EndV G (wX G ad) A (fun S' => S' = u_now S (st_text (x_now S), st_len (x_now S), va_up (remP (st_pats (x_now S)) j0 5) 5 none, st_pcnt (x_now S) - 1, st_most (x_now S))) below args s 0 0) (F0 m 2 ls []) := by
    intro n9
    induction n9 with
    | zero => intro i hi hn9; exact absurd hn9 (Nat.not_lt_zero _)
    | succ n9 ih2 =>
      intro i hi hn9 H locs ls hX hl
      refine lv_iload_n hC.1 hC.2.1 dX5_removeNumber_2 rfl (lv_at hl 0 rfl) ?_
      refine lv_iconst (v := nI (1)) hC.1 hC.2.1 dX5_removeNumber_3 rfl ?_
      refine n_add hC (a := i) (b := 1) dX5_removeNumber_4 ?_
      refine lv_bipush (v := nI (6)) hC.1 hC.2.1 dX5_removeNumber_5 (by decide +kernel) ?_
      refine n_icmp_ge hC (a := i + 1) (b := 6) (tgt := 35) dX5_removeNumber_7 (by decide) (by omega) (by decide) (fun c7 => ?_) (fun c7 => ?_)
      · skip
        refine lv_aload_n hC.1 hC.2.1 dX5_removeNumber_35 rfl (lv_at hl 1 rfl) ?_
        refine g_pats (k := 0) (by decide) hC fi_X5_removeNumber_X5 hK hX (wd9 hC 1 rfl) dX5_removeNumber_36 ?_
        refine lv_iconst (v := nI (5)) hC.1 hC.2.1 dX5_removeNumber_39 rfl ?_
        refine lv_null hC.1 hC.2.1 dX5_removeNumber_40 ?_
        refine s_pats (k := 0) (by decide) hC hK hX (i := 5) (v := none) (by decide) (fun a h => by cases h) dX5_removeNumber_41 (fun H locs hX => ?_)
        replace hX : HH G A s.heap (wX G ad (u_now S (st_text (x_now S), st_len (x_now S), va_up (remP (st_pats (x_now S)) j0 i) (5) (none), st_pcnt (x_now S), st_most (x_now S)))) H locs := hX
        refine lv_aload_n hC.1 hC.2.1 dX5_removeNumber_42 rfl (lv_at hl 1 rfl) ?_
        refine lv_dup hC.1 hC.2.1 dX5_removeNumber_43 rfl ?_
        refine g_pcnt (k := 0) (by decide) hC fi_X5_removeNumber_X5 hK hX (wd9 hC 2 rfl) dX5_removeNumber_44 (v := st_pcnt (x_now S)) rfl ?_
        refine lv_iconst (v := nI (1)) hC.1 hC.2.1 dX5_removeNumber_47 rfl ?_
        refine n_sub hC (a := st_pcnt (x_now S)) (b := 1) dX5_removeNumber_48 (by omega) ?_
        refine p_pcnt (k := 0) (by decide) hC fi_X5_removeNumber_X5 hK hX (v := (st_pcnt (x_now S)) - (1)) (wd9 hC 2 rfl) dX5_removeNumber_49 (fun H locs hX => ?_)
        replace hX : HH G A s.heap (wX G ad (u_now S (st_text (x_now S), st_len (x_now S), va_up (remP (st_pats (x_now S)) j0 i) (5) (none), (st_pcnt (x_now S)) - (1), st_most (x_now S)))) H locs := hX
        refine r_return hC hr hlk hX dX5_removeNumber_52 ?_
        obtain rfl : i = 5 := by omega
        exact rfl
      · skip
        refine lv_iload_n hC.1 hC.2.1 dX5_removeNumber_10 rfl (lv_at hl 0 rfl) ?_
        refine lv_iload_n hC.1 hC.2.1 dX5_removeNumber_11 rfl (lv_at hl 2 rfl) ?_
        refine n_icmp_lt hC (a := i) (b := j0) (tgt := 29) dX5_removeNumber_12 (by decide) (by omega) (by omega) (fun c12 => ?_) (fun c12 => ?_)
        · skip
          refine lv_iinc (v := nI (i + 1)) (lv' := [(2, .int (nI (i + 1))), (0, .ref (ad 0)), (1, .int (nI (j0)))]) hC.1 hC.2.1 dX5_removeNumber_29 hl (k := 0) rfl (n_inc1 _) (by decide) rfl (fun ls hl => ?_)
          refine lv_goto (tgt := 2) hC.1 hC.2.1 dX5_removeNumber_32 (by decide) ?_
          refine ih2 (i + 1) ?_ ?_ _ _ ls (by first | (rw [← remP_k (by omega)]; exact hX) | (rw [← remP_s (by omega)]; exact hX)) (lv_sub hl [0, 1, 2] rfl)
          · omega
          · omega
        · skip
          refine lv_aload_n hC.1 hC.2.1 dX5_removeNumber_15 rfl (lv_at hl 1 rfl) ?_
          refine g_pats (k := 0) (by decide) hC fi_X5_removeNumber_X5 hK hX (wd9 hC 1 rfl) dX5_removeNumber_16 ?_
          refine lv_iload_n hC.1 hC.2.1 dX5_removeNumber_19 rfl (lv_at hl 0 rfl) ?_
          refine lv_aload_n hC.1 hC.2.1 dX5_removeNumber_20 rfl (lv_at hl 1 rfl) ?_
          refine g_pats (k := 0) (by decide) hC fi_X5_removeNumber_X5 hK hX (wd9 hC 1 rfl) dX5_removeNumber_21 ?_
          refine lv_iload_n hC.1 hC.2.1 dX5_removeNumber_24 rfl (lv_at hl 0 rfl) ?_
          refine lv_iconst (v := nI (1)) hC.1 hC.2.1 dX5_removeNumber_25 rfl ?_
          refine n_add hC (a := i) (b := 1) dX5_removeNumber_26 ?_
          refine l_pats (k := 0) (by decide) hC hK hX (i := i + 1) (by omega) dX5_removeNumber_27 ?_
          refine n_topr (y := (remP (st_pats (x_now S)) j0 i) (i + 1)) rfl ?_
          refine s_pats (k := 0) (by decide) hC hK hX (i := i) (v := (remP (st_pats (x_now S)) j0 i) (i + 1)) (by omega) (fun a h => hp0 (i + 1) (by omega) a (by rw [← h]; unfold remP; rw [if_neg (by omega)])) dX5_removeNumber_28 (fun H locs hX => ?_)
          replace hX : HH G A s.heap (wX G ad (u_now S (st_text (x_now S), st_len (x_now S), va_up (remP (st_pats (x_now S)) j0 i) (i) ((remP (st_pats (x_now S)) j0 i) (i + 1)), st_pcnt (x_now S), st_most (x_now S)))) H locs := hX
          refine lv_iinc (v := nI (i + 1)) (lv' := [(2, .int (nI (i + 1))), (0, .ref (ad 0)), (1, .int (nI (j0)))]) hC.1 hC.2.1 dX5_removeNumber_29 hl (k := 0) rfl (n_inc1 _) (by decide) rfl (fun ls hl => ?_)
          refine lv_goto (tgt := 2) hC.1 hC.2.1 dX5_removeNumber_32 (by decide) ?_
          refine ih2 (i + 1) ?_ ?_ _ _ ls (by first | (rw [← remP_k (by omega)]; exact hX) | (rw [← remP_s (by omega)]; exact hX)) (lv_sub hl [0, 1, 2] rfl)
          · omega
          · omega
  refine loop2 _ (0) ?_ (Nat.lt_succ_self _) _ _ ls (by rw [remP_0]; exact hX) (lv_sub hl [0, 1, 2] rfl)
  · omega
theorem fi_X5_mayBegin_X2 : ∀ w ∈ wsX20, w ∈ wsX5_mayBegin := by decide +kernel
set_option maxHeartbeats 4000000 in
set_option maxRecDepth 100000 in
theorem c_X5_mayBegin (l : Launch) (G : GX) (ad : Nat → Nat) (S : XS) (q0 : PatD) (jq0 : Nat) (hq_q0 : (x_pool S)[jq0]? = some q0) (e0 : Nat) (he0 : e0 ≤ 120) (ht0 : ∀ i, st_text (x_now S) i < 65536) : CtI l yX5_mayBegin wsX5_mayBegin { frames := 1, cells := 0, slots := 0, locals := 21 } G (wX G ad) (S) [.ref (ad 0), .ref (pd_a q0), .int (nI (e0))] (fun r S' => r = bI (mayB (pd_bnd q0) (st_text (x_now S)) e0) ∧ S' = S) 0 0 := by
  refine CtI.of (cc := cX5_mayBegin) (maxL := 3) (ret := some .boolean) (by decide +kernel) rfl (Nat.le_of_ble_eq_true rfl) ?_
  intro p e s m args below meth c ls A hC hr hlk hin hK hA hX hl
  have hl : lv_has ls 3 [(0, .ref (ad 0)), (1, .ref (pd_a q0)), (2, .int (nI (e0)))] := hl
  refine lv_aload_n hC.1 hC.2.1 dX5_mayBegin_0 rfl (lv_at hl 1 rfl) ?_
  refine gN_pat_bound hC fi_X5_mayBegin_X2 hK hX hq_q0 (hnf hK 13 rfl) dX5_mayBegin_1 (v := pd_bnd q0) rfl ?_
  refine b_if_eq hC (b := pd_bnd q0) (tgt := 23) dX5_mayBegin_4 (by decide) (fun c4 => ?_) (fun c4 => ?_)
  · skip
    refine lv_iconst (v := nI (1)) hC.1 hC.2.1 dX5_mayBegin_23 rfl ?_
    refine lv_goto (tgt := 28) hC.1 hC.2.1 dX5_mayBegin_24 (by decide) ?_
    refine r_zreturn hC hr hlk hX dX5_mayBegin_28 rfl ?_
    first | exact ⟨bI_t (by simp_all), rfl⟩ | exact ⟨bI_f (by simp_all), rfl⟩
  · skip
    refine lv_iload_n hC.1 hC.2.1 dX5_mayBegin_7 rfl (lv_at hl 2 rfl) ?_
    refine n_if_eq hC (a := e0) (tgt := 23) dX5_mayBegin_8 (by decide) (by omega) (fun c8 => ?_) (fun c8 => ?_)
    · skip
      refine lv_iconst (v := nI (1)) hC.1 hC.2.1 dX5_mayBegin_23 rfl ?_
      refine lv_goto (tgt := 28) hC.1 hC.2.1 dX5_mayBegin_24 (by decide) ?_
      refine r_zreturn hC hr hlk hX dX5_mayBegin_28 rfl ?_
      first | exact ⟨bI_t (by simp_all), rfl⟩ | exact ⟨bI_f (by simp_all), rfl⟩
    · skip
      refine lv_aload_n hC.1 hC.2.1 dX5_mayBegin_11 rfl (lv_at hl 0 rfl) ?_
      refine lv_iload_n hC.1 hC.2.1 dX5_mayBegin_12 rfl (lv_at hl 2 rfl) ?_
      refine lv_iconst (v := nI (1)) hC.1 hC.2.1 dX5_mayBegin_13 rfl ?_
      refine n_sub hC (a := e0) (b := 1) dX5_mayBegin_14 (by omega) ?_
      refine cv_I (As := [.int (nI (e0 - 1))]) (rest := []) hC hK hA hX (c_X5_signAt l G ad (S) (e0 - 1) (by omega) (ht0 _)) (cwV 1 hC.2.2.2.2 gX5_mayBegin_X5_signAt rfl rfl rfl hd_X5_signAt ⟨Nat.le_of_ble_eq_true rfl, Nat.le_of_ble_eq_true rfl⟩) (ci := 5) (q := (RX5, TX5, 5)) rfl (q0 := 0) rfl dX5_mayBegin_15 rfl hl.1 rfl (Nat.le_of_ble_eq_true rfl) ⟨(Nat.zero_le _), (Nat.zero_le _)⟩ (fun r9 S9 H locs hp9 hX => ?_)
      obtain ⟨rfl, hS9⟩ := hp9
      rw [hS9] at hX
      replace hX : HH G A s.heap (wX G ad (S)) H locs := hX
      refine lv_bipush (v := nI (32)) hC.1 hC.2.1 dX5_mayBegin_18 (by decide +kernel) ?_
      refine n_icmp_ne hC (a := (st_text (x_now S)) (e0 - 1)) (b := 32) (tgt := 27) dX5_mayBegin_20 (by decide) (by have := ht0 (e0 - 1); omega) (by decide) (fun c20 => ?_) (fun c20 => ?_)
      · skip
        refine lv_iconst (v := nI (0)) hC.1 hC.2.1 dX5_mayBegin_27 rfl ?_
        refine r_zreturn hC hr hlk hX dX5_mayBegin_28 rfl ?_
        first | exact ⟨bI_t (by simp_all), rfl⟩ | exact ⟨bI_f (by simp_all), rfl⟩
      · skip
        refine lv_iconst (v := nI (1)) hC.1 hC.2.1 dX5_mayBegin_23 rfl ?_
        refine lv_goto (tgt := 28) hC.1 hC.2.1 dX5_mayBegin_24 (by decide) ?_
        refine r_zreturn hC hr hlk hX dX5_mayBegin_28 rfl ?_
        first | exact ⟨bI_t (by simp_all), rfl⟩ | exact ⟨bI_f (by simp_all), rfl⟩
theorem fi_X5_copyFrom_X5 : ∀ w ∈ wsX50, w ∈ wsX5_copyFrom := by decide +kernel
set_option maxHeartbeats 4000000 in
set_option maxRecDepth 100000 in
theorem c_X5_copyFrom (l : Launch) (G : GX) (ad : Nat → Nat) (S : XS) (k0 j0 : Nat) (hk0 : k0 < 6) (hj0 : j0 < 6) (hkj : k0 ≠ j0) (ht0 : ∀ i, st_text (x_St S j0) i < 65536) (hp0 : inPool S (st_pats (x_St S j0))) : CtV l yX5_copyFrom wsX5_copyFrom { frames := 1, cells := 0, slots := 0, locals := 32 } G (wX G ad) (S) [.ref (ad (3 * k0)), .ref (ad (3 * j0))] (fun S' => S' = u_st S k0 (cpSt (x_St S k0) (x_St S j0))) 0 0 := by
  refine CtV.of (cc := cX5_copyFrom) (maxL := 3) (ret := none) (by decide +kernel) rfl (Nat.le_of_ble_eq_true rfl) ?_
  intro p e s m args below meth c ls A hC hr hlk hin hK hA hX hl
  have hl : lv_has ls 3 [(0, .ref (ad (3 * k0))), (1, .ref (ad (3 * j0)))] := hl
  refine lv_aload_n hC.1 hC.2.1 dX5_copyFrom_0 rfl (lv_at hl 1 rfl) ?_
  refine g_text (k := j0) (by omega) hC fi_X5_copyFrom_X5 hK hX (wd9 hC 1 rfl) dX5_copyFrom_1 ?_
  refine lv_iconst (v := nI (0)) hC.1 hC.2.1 dX5_copyFrom_4 rfl ?_
  refine lv_aload_n hC.1 hC.2.1 dX5_copyFrom_5 rfl (lv_at hl 0 rfl) ?_
  refine g_text (k := k0) (by omega) hC fi_X5_copyFrom_X5 hK hX (wd9 hC 1 rfl) dX5_copyFrom_6 ?_
  refine lv_iconst (v := nI (0)) hC.1 hC.2.1 dX5_copyFrom_9 rfl ?_
  refine lv_bipush (v := nI (120)) hC.1 hC.2.1 dX5_copyFrom_10 (by decide +kernel) ?_
  refine va_copyi (ty := .char) hC.1 hC.2.1 (hC.2.2.1.trans hl.1.symm) hC.2.2.2.1 (wd9 hC 2 rfl) (wd9 hC 3 rfl) (wd9 hC 4 rfl) (wd9 hC 5 rfl) hK.1 hX.1 hX.2.1 hX.2.2 (3 * j0 + 1) (3 * k0 + 1) 0 0 (f := fun k9 => nI (st_text (x_St S j0) k9)) (g := fun k9 => nI (st_text (x_St S k0) k9)) (wX_tx hj0) (wX_tx hk0) rfl rfl rfl (by decide +kernel) (by decide +kernel) (by decide +kernel) (by decide +kernel) (by decide +kernel) (fun i hi => (pk_charN (ht0 _)).2) (Nat.le_of_ble_eq_true rfl) (by decide +kernel) dX5_copyFrom_12 (fun H locs hP hD hS => ?_)
  rw [show (nI 0).toNatClampNeg = 0 from by decide +kernel, show (nI 120).toNatClampNeg = 120 from by decide +kernel, nA_cpy, wX_utext hk0] at hP hD
  have hX : HH G A s.heap (wX G ad (u_st S k0 (ust_text (x_St S k0) (va_cpy (st_text (x_St S j0)) (st_text (x_St S k0)) 0 0 120)))) H locs := ⟨hP, hD, hS⟩
  refine lv_aload_n hC.1 hC.2.1 dX5_copyFrom_15 rfl (lv_at hl 0 rfl) ?_
  refine lv_aload_n hC.1 hC.2.1 dX5_copyFrom_16 rfl (lv_at hl 1 rfl) ?_
  refine g_len (k := j0) (by omega) hC fi_X5_copyFrom_X5 hK hX (wd9 hC 6 rfl) dX5_copyFrom_17 (v := st_len (x_St S j0)) (by first | rfl | simp only [x_St_s, x_St_u hkj]) ?_
  refine p_len (k := k0) (by omega) hC fi_X5_copyFrom_X5 hK hX (v := st_len (x_St S j0)) (wd9 hC 6 rfl) dX5_copyFrom_20 (fun H locs hX => ?_)
  rw [u_st_u] at hX
  simp only [x_St_s] at hX
  replace hX : HH G A s.heap (wX G ad (u_st S k0 (va_cpy (st_text (x_St S j0)) (st_text (x_St S k0)) 0 0 120, st_len (x_St S j0), st_pats (x_St S k0), st_pcnt (x_St S k0), st_most (x_St S k0)))) H locs := hX
  refine lv_iconst (v := nI (0)) hC.1 hC.2.1 dX5_copyFrom_23 rfl ?_
  refine lv_istore_n (lv' := [(2, .int (nI (0))), (0, .ref (ad (3 * k0))), (1, .ref (ad (3 * j0)))]) hC.1 hC.2.1 dX5_copyFrom_24 rfl hl (by decide) rfl (fun ls hl => ?_)
  have loop25 : ∀ (n9 : Nat) (i : Nat), (i ≤ 6) → 6 - i < n9 → ∀ (H : Heap) (locs : List Loc) (ls : Array Slot), HH G A s.heap (wX G ad (u_st S k0 (va_cpy (st_text (x_St S j0)) (st_text (x_St S k0)) 0 0 120, st_len (x_St S j0), cpF (st_pats (x_St S j0)) (st_pats (x_St S k0)) i, st_pcnt (x_St S k0), st_most (x_St S k0)))) H locs → lv_has ls 3 [(2, .int (nI (i))), (0, .ref (ad (3 * k0))), (1, .ref (ad (3 * j0)))] → W p l e { frames := 1, cells := 0, slots := 0, locals := 32 } s m args below meth c H locs 0 0 (EndV G (wX G ad) A (fun S' => S' = u_st S k0 (cpSt (x_St S k0) (x_St S j0))) below args s 0 0) (F0 m 25 ls []) := by
    intro n9
    induction n9 with
    | zero => intro i hi hn9; exact absurd hn9 (Nat.not_lt_zero _)
    | succ n9 ih25 =>
      intro i hi hn9 H locs ls hX hl
      refine lv_iload_n hC.1 hC.2.1 dX5_copyFrom_25 rfl (lv_at hl 0 rfl) ?_
      refine lv_bipush (v := nI (6)) hC.1 hC.2.1 dX5_copyFrom_26 (by decide +kernel) ?_
      refine n_icmp_ge hC (a := i) (b := 6) (tgt := 49) dX5_copyFrom_28 (by decide) (by omega) (by decide) (fun c28 => ?_) (fun c28 => ?_)
      · skip
        refine lv_aload_n hC.1 hC.2.1 dX5_copyFrom_49 rfl (lv_at hl 1 rfl) ?_
        refine lv_aload_n hC.1 hC.2.1 dX5_copyFrom_50 rfl (lv_at hl 2 rfl) ?_
        refine g_pcnt (k := j0) (by omega) hC fi_X5_copyFrom_X5 hK hX (wd9 hC 8 rfl) dX5_copyFrom_51 (v := st_pcnt (x_St S j0)) (by first | rfl | simp only [x_St_s, x_St_u hkj]) ?_
        refine p_pcnt (k := k0) (by omega) hC fi_X5_copyFrom_X5 hK hX (v := st_pcnt (x_St S j0)) (wd9 hC 8 rfl) dX5_copyFrom_54 (fun H locs hX => ?_)
        rw [u_st_u] at hX
        simp only [x_St_s] at hX
        replace hX : HH G A s.heap (wX G ad (u_st S k0 (va_cpy (st_text (x_St S j0)) (st_text (x_St S k0)) 0 0 120, st_len (x_St S j0), cpF (st_pats (x_St S j0)) (st_pats (x_St S k0)) i, st_pcnt (x_St S j0), st_most (x_St S k0)))) H locs := hX
        refine lv_aload_n hC.1 hC.2.1 dX5_copyFrom_57 rfl (lv_at hl 1 rfl) ?_
        refine lv_aload_n hC.1 hC.2.1 dX5_copyFrom_58 rfl (lv_at hl 2 rfl) ?_
        refine g_most (k := j0) (by omega) hC fi_X5_copyFrom_X5 hK hX (wd9 hC 9 rfl) dX5_copyFrom_59 (v := st_most (x_St S j0)) (by first | rfl | simp only [x_St_s, x_St_u hkj]) ?_
        refine p_most (k := k0) (by omega) hC fi_X5_copyFrom_X5 hK hX (v := st_most (x_St S j0)) (wd9 hC 9 rfl) dX5_copyFrom_62 (fun H locs hX => ?_)
        rw [u_st_u] at hX
        simp only [x_St_s] at hX
        replace hX : HH G A s.heap (wX G ad (u_st S k0 (va_cpy (st_text (x_St S j0)) (st_text (x_St S k0)) 0 0 120, st_len (x_St S j0), cpF (st_pats (x_St S j0)) (st_pats (x_St S k0)) i, st_pcnt (x_St S j0), st_most (x_St S j0)))) H locs := hX
        refine r_return hC hr hlk hX dX5_copyFrom_65 ?_
        obtain rfl : i = 6 := by omega
        exact rfl
      · skip
        refine lv_aload_n hC.1 hC.2.1 dX5_copyFrom_31 rfl (lv_at hl 1 rfl) ?_
        refine g_pats (k := k0) (by omega) hC fi_X5_copyFrom_X5 hK hX (wd9 hC 7 rfl) dX5_copyFrom_32 ?_
        refine lv_iload_n hC.1 hC.2.1 dX5_copyFrom_35 rfl (lv_at hl 0 rfl) ?_
        refine lv_aload_n hC.1 hC.2.1 dX5_copyFrom_36 rfl (lv_at hl 2 rfl) ?_
        refine g_pats (k := j0) (by omega) hC fi_X5_copyFrom_X5 hK hX (wd9 hC 7 rfl) dX5_copyFrom_37 ?_
        refine lv_iload_n hC.1 hC.2.1 dX5_copyFrom_40 rfl (lv_at hl 0 rfl) ?_
        refine l_pats (k := j0) (by omega) hC hK hX (i := i) (by omega) dX5_copyFrom_41 ?_
        refine n_topr (y := (st_pats (x_St S j0)) i) (by first | rfl | simp only [x_St_s, x_St_u hkj]) ?_
        refine s_pats (k := k0) (by omega) hC hK hX (i := i) (v := (st_pats (x_St S j0)) i) (by omega) (fun a h => by rw [x_pool_u]; exact hp0 i (by omega) a h) dX5_copyFrom_42 (fun H locs hX => ?_)
        rw [u_st_u] at hX
        simp only [x_St_s] at hX
        replace hX : HH G A s.heap (wX G ad (u_st S k0 (va_cpy (st_text (x_St S j0)) (st_text (x_St S k0)) 0 0 120, st_len (x_St S j0), va_up (cpF (st_pats (x_St S j0)) (st_pats (x_St S k0)) i) (i) ((st_pats (x_St S j0)) i), st_pcnt (x_St S k0), st_most (x_St S k0)))) H locs := hX
        refine lv_iinc (v := nI (i + 1)) (lv' := [(2, .int (nI (i + 1))), (0, .ref (ad (3 * k0))), (1, .ref (ad (3 * j0)))]) hC.1 hC.2.1 dX5_copyFrom_43 hl (k := 0) rfl (n_inc1 _) (by decide) rfl (fun ls hl => ?_)
        refine lv_goto (tgt := 25) hC.1 hC.2.1 dX5_copyFrom_46 (by decide) ?_
        refine ih25 (i + 1) ?_ ?_ _ _ ls (by rw [← cpF_s]; exact hX) (lv_sub hl [0, 1, 2] rfl)
        · omega
        · omega
  refine loop25 _ (0) ?_ (Nat.lt_succ_self _) _ _ ls (by rw [cpF_0]; exact hX) (lv_sub hl [0, 1, 2] rfl)
  · omega
theorem fi_X1_append_X1 : ∀ w ∈ wsX10, w ∈ wsX1_append := by decide +kernel
set_option maxHeartbeats 4000000 in
set_option maxRecDepth 100000 in
theorem c_X1_append (l : Launch) (G : GX) (ad : Nat → Nat) (S : XS) (c0 : Nat) (hc0 : c0 < 65536) (hl0 : x_plen S < 60) : CtV l yX1_append wsX1_append { frames := 0, cells := 0, slots := 0, locals := 0 } G (wX G ad) (S) [.ref (ad 20), .int (nI (c0))] (fun S' => S' = u_plen (u_typed S (va_up (x_typed S) (x_plen S) c0)) (x_plen S + 1)) 0 0 := by
  refine CtV.of (cc := cX1_append) (maxL := 2) (ret := none) (by decide +kernel) rfl (Nat.le_of_ble_eq_true rfl) ?_
  intro p e s m args below meth c ls A hC hr hlk hin hK hA hX hl
  have hl : lv_has ls 2 [(0, .ref (ad 20)), (1, .int (nI (c0)))] := hl
  refine lv_aload_n hC.1 hC.2.1 dX1_append_0 rfl (lv_at hl 0 rfl) ?_
  refine g_pad_length hC fi_X1_append_X1 hK hX (wd9 hC 1 rfl) dX1_append_1 (v := x_plen S) rfl ?_
  refine n_if_lt hC (a := x_plen S) (tgt := 36) dX1_append_4 (by decide) (by omega) ?_
  refine lv_aload_n hC.1 hC.2.1 dX1_append_7 rfl (lv_at hl 0 rfl) ?_
  refine g_pad_length hC fi_X1_append_X1 hK hX (wd9 hC 1 rfl) dX1_append_8 (v := x_plen S) rfl ?_
  refine lv_bipush (v := nI (60)) hC.1 hC.2.1 dX1_append_11 (by decide +kernel) ?_
  refine n_icmp_ge hC (a := x_plen S) (b := 60) (tgt := 36) dX1_append_13 (by decide) (by omega) (by decide) (fun c13 => ?_) (fun c13 => ?_)
  · exfalso; omega
  · skip
    refine lv_aload_n hC.1 hC.2.1 dX1_append_16 rfl (lv_at hl 0 rfl) ?_
    refine g_pad_typed hC fi_X1_append_X1 hK hX (wd9 hC 2 rfl) dX1_append_17 ?_
    refine lv_aload_n hC.1 hC.2.1 dX1_append_20 rfl (lv_at hl 0 rfl) ?_
    refine g_pad_length hC fi_X1_append_X1 hK hX (wd9 hC 1 rfl) dX1_append_21 (v := x_plen S) rfl ?_
    refine lv_iload_n hC.1 hC.2.1 dX1_append_24 rfl (lv_at hl 1 rfl) ?_
    refine s_typed hC hK hX (i := x_plen S) (v := c0) (by omega) (by omega) dX1_append_25 (fun H locs hX => ?_)
    replace hX : HH G A s.heap (wX G ad (u_typed (S) (va_up (x_typed S) (x_plen S) (c0)))) H locs := hX
    refine lv_aload_n hC.1 hC.2.1 dX1_append_26 rfl (lv_at hl 0 rfl) ?_
    refine lv_dup hC.1 hC.2.1 dX1_append_27 rfl ?_
    refine g_pad_length hC fi_X1_append_X1 hK hX (wd9 hC 1 rfl) dX1_append_28 (v := x_plen S) rfl ?_
    refine lv_iconst (v := nI (1)) hC.1 hC.2.1 dX1_append_31 rfl ?_
    refine n_add hC (a := x_plen S) (b := 1) dX1_append_32 ?_
    refine p_pad_length hC fi_X1_append_X1 hK hX (v := (x_plen S) + (1)) (wd9 hC 1 rfl) dX1_append_33 (fun H locs hX => ?_)
    replace hX : HH G A s.heap (wX G ad (u_plen (u_typed (S) (va_up (x_typed S) (x_plen S) (c0))) ((x_plen S) + (1)))) H locs := hX
    refine r_return hC hr hlk hX dX1_append_36 ?_
    exact rfl
theorem fi_X1_signAt_X1 : ∀ w ∈ wsX10, w ∈ wsX1_signAt := by decide +kernel
set_option maxHeartbeats 4000000 in
set_option maxRecDepth 100000 in
theorem c_X1_signAt (l : Launch) (G : GX) (ad : Nat → Nat) (S : XS) (i0 : Nat) (hi0 : i0 < 60) (ht0 : x_typed S i0 < 65536) : CtI l yX1_signAt wsX1_signAt { frames := 0, cells := 0, slots := 0, locals := 0 } G (wX G ad) (S) [.ref (ad 20), .int (nI (i0))] (fun r S' => r = nI (x_typed S i0) ∧ S' = S) 0 0 := by
  refine CtI.of (cc := cX1_signAt) (maxL := 2) (ret := some .char) (by decide +kernel) rfl (Nat.le_of_ble_eq_true rfl) ?_
  intro p e s m args below meth c ls A hC hr hlk hin hK hA hX hl
  have hl : lv_has ls 2 [(0, .ref (ad 20)), (1, .int (nI (i0)))] := hl
  refine lv_iload_n hC.1 hC.2.1 dX1_signAt_0 rfl (lv_at hl 1 rfl) ?_
  refine n_if_lt hC (a := i0) (tgt := 19) dX1_signAt_1 (by decide) (by omega) ?_
  refine lv_iload_n hC.1 hC.2.1 dX1_signAt_4 rfl (lv_at hl 1 rfl) ?_
  refine lv_bipush (v := nI (60)) hC.1 hC.2.1 dX1_signAt_5 (by decide +kernel) ?_
  refine n_icmp_ge hC (a := i0) (b := 60) (tgt := 19) dX1_signAt_7 (by decide) (by omega) (by decide) (fun c7 => ?_) (fun c7 => ?_)
  · exfalso; omega
  · skip
    refine lv_aload_n hC.1 hC.2.1 dX1_signAt_10 rfl (lv_at hl 0 rfl) ?_
    refine g_pad_typed hC fi_X1_signAt_X1 hK hX (wd9 hC 1 rfl) dX1_signAt_11 ?_
    refine lv_iload_n hC.1 hC.2.1 dX1_signAt_14 rfl (lv_at hl 1 rfl) ?_
    refine l_typed hC hK hX (i := i0) (by omega) dX1_signAt_15 (v := (x_typed S) i0) rfl ?_
    refine lv_goto (tgt := 21) hC.1 hC.2.1 dX1_signAt_16 (by decide) ?_
    refine r_zreturn hC hr hlk hX dX1_signAt_21 (nar_char ht0) ?_
    exact ⟨rfl, rfl⟩
theorem fi_X1_canBeWritten_X1 : ∀ w ∈ wsX10, w ∈ wsX1_canBeWritten := by decide +kernel
theorem hd_X1_signAt : yX1_signAt.cls = RX1 ∧ yX1_signAt.cls ≠ "java/lang/invoke/MethodHandle" ∧ yX1_signAt.cls ≠ "java/lang/invoke/VarHandle" ∧ (parseMethodDescriptor yX1_signAt.desc).map (fun d => d.parameters.length) = some 1 := by decide +kernel
set_option maxHeartbeats 4000000 in
set_option maxRecDepth 100000 in
theorem c_X1_canBeWritten (l : Launch) (G : GX) (ad : Nat → Nat) (S : XS) (hl0 : x_plen S ≤ 60) (ht0 : ∀ i, x_typed S i < 65536) : CtI l yX1_canBeWritten wsX1_canBeWritten { frames := 1, cells := 0, slots := 0, locals := 21 } G (wX G ad) (S) [.ref (ad 20)] (fun r S' => r = bI (decide (canW (x_typed S) (x_plen S) = true ∧ 0 < x_plen S)) ∧ S' = S) 0 0 := by
  refine CtI.of (cc := cX1_canBeWritten) (maxL := 2) (ret := some .boolean) (by decide +kernel) rfl (Nat.le_of_ble_eq_true rfl) ?_
  intro p e s m args below meth c ls A hC hr hlk hin hK hA hX hl
  have hl : lv_has ls 2 [(0, .ref (ad 20))] := hl
  refine lv_iconst (v := nI (0)) hC.1 hC.2.1 dX1_canBeWritten_0 rfl ?_
  refine lv_istore_n (lv' := [(1, .int (nI (0))), (0, .ref (ad 20))]) hC.1 hC.2.1 dX1_canBeWritten_1 rfl hl (by decide) rfl (fun ls hl => ?_)
  have loop2 : ∀ (n9 : Nat) (i : Nat), (i ≤ x_plen S) → (canW (x_typed S) i = true) → x_plen S - i < n9 → ∀ (H : Heap) (locs : List Loc) (ls : Array Slot), HH G A s.heap (wX G ad (S)) H locs → lv_has ls 2 [(1, .int (nI (i))), (0, .ref (ad 20))] → W p l e { frames := 1, cells := 0, slots := 0, locals := 21 } s m args below meth c H locs 0 0 (EndI G (wX G ad) A (fun r S' => r = bI (decide (canW (x_typed S) (x_plen S) = true ∧ 0 < x_plen S)) ∧ S' = S) below args s 0 0) (F0 m 2 ls []) := by
    intro n9
    induction n9 with
    | zero => intro i hi hw hn9; exact absurd hn9 (Nat.not_lt_zero _)
    | succ n9 ih2 =>
      intro i hi hw hn9 H locs ls hX hl
      refine lv_iload_n hC.1 hC.2.1 dX1_canBeWritten_2 rfl (lv_at hl 0 rfl) ?_
      refine lv_aload_n hC.1 hC.2.1 dX1_canBeWritten_3 rfl (lv_at hl 1 rfl) ?_
      refine g_pad_length hC fi_X1_canBeWritten_X1 hK hX (wd9 hC 1 rfl) dX1_canBeWritten_4 (v := x_plen S) rfl ?_
      refine n_icmp_ge hC (a := i) (b := x_plen S) (tgt := 39) dX1_canBeWritten_7 (by decide) (by omega) (by omega) (fun c7 => ?_) (fun c7 => ?_)
      · skip
        refine lv_aload_n hC.1 hC.2.1 dX1_canBeWritten_39 rfl (lv_at hl 1 rfl) ?_
        refine g_pad_length hC fi_X1_canBeWritten_X1 hK hX (wd9 hC 1 rfl) dX1_canBeWritten_40 (v := x_plen S) rfl ?_
        refine n_if_le hC (a := x_plen S) (tgt := 50) dX1_canBeWritten_43 (by decide) (by omega) (fun c43 => ?_) (fun c43 => ?_)
        · skip
          refine lv_iconst (v := nI (0)) hC.1 hC.2.1 dX1_canBeWritten_50 rfl ?_
          refine r_zreturn hC hr hlk hX dX1_canBeWritten_51 rfl ?_
          obtain rfl : i = x_plen S := by omega
          first | exact ⟨bI_t ⟨hw, by omega⟩, rfl⟩ | exact ⟨bI_f (fun h => absurd h.2 (by omega)), rfl⟩
        · skip
          refine lv_iconst (v := nI (1)) hC.1 hC.2.1 dX1_canBeWritten_46 rfl ?_
          refine lv_goto (tgt := 51) hC.1 hC.2.1 dX1_canBeWritten_47 (by decide) ?_
          refine r_zreturn hC hr hlk hX dX1_canBeWritten_51 rfl ?_
          obtain rfl : i = x_plen S := by omega
          first | exact ⟨bI_t ⟨hw, by omega⟩, rfl⟩ | exact ⟨bI_f (fun h => absurd h.2 (by omega)), rfl⟩
      · skip
        refine lv_aload_n hC.1 hC.2.1 dX1_canBeWritten_10 rfl (lv_at hl 1 rfl) ?_
        refine lv_iload_n hC.1 hC.2.1 dX1_canBeWritten_11 rfl (lv_at hl 0 rfl) ?_
        refine cv_I (As := [.int (nI (i))]) (rest := []) hC hK hA hX (c_X1_signAt l G ad (S) (i) (by omega) (ht0 _)) (cwV 1 hC.2.2.2.2 gX1_canBeWritten_X1_signAt rfl rfl rfl hd_X1_signAt ⟨Nat.le_of_ble_eq_true rfl, Nat.le_of_ble_eq_true rfl⟩) (ci := 1) (q := (RX1, TX1, 2)) rfl (q0 := 20) rfl dX1_canBeWritten_12 rfl hl.1 rfl (Nat.le_of_ble_eq_true rfl) ⟨(Nat.zero_le _), (Nat.zero_le _)⟩ (fun r9 S9 H locs hp9 hX => ?_)
        obtain ⟨rfl, hS9⟩ := hp9
        rw [hS9] at hX
        replace hX : HH G A s.heap (wX G ad (S)) H locs := hX
        refine pn_I (As := [.int (nI ((x_typed S) i))]) (rest := []) hC hK hA hX (c_X7_isLetter l G ((x_typed S) i) (ht0 _)) ⟨va_cnB 1 hC.2.2.2.2 gX1_canBeWritten_X7_isLetter_n23 rfl rfl rfl (hK.2.2 _ (List.mem_of_getElem? (i := 6) rfl)) (wd9 hC 9 rfl) hd_X7_isLetter_s ⟨Nat.le_of_ble_eq_true rfl, Nat.le_of_ble_eq_true rfl⟩, (wd9 hC 8 rfl), trivial⟩ dX1_canBeWritten_15 rfl hl.1 rfl (Nat.le_of_ble_eq_true rfl) ⟨(Nat.zero_le _), (Nat.zero_le _)⟩ (fun r9 S9 H locs hp9 hX => ?_)
        obtain rfl := hp9
        replace hX : HH G A s.heap (wX G ad (S)) H locs := hX
        refine b_if_ne hC (b := isLet ((x_typed S) i)) (tgt := 33) dX1_canBeWritten_18 (by decide) (fun c18 => ?_) (fun c18 => ?_)
        · skip
          refine lv_iinc (v := nI (i + 1)) (lv' := [(1, .int (nI (i + 1))), (0, .ref (ad 20))]) hC.1 hC.2.1 dX1_canBeWritten_33 hl (k := 0) rfl (n_inc1 _) (by decide) rfl (fun ls hl => ?_)
          refine lv_goto (tgt := 2) hC.1 hC.2.1 dX1_canBeWritten_36 (by decide) ?_
          refine ih2 (i + 1) ?_ ?_ ?_ _ _ ls hX (lv_sub hl [0, 1] rfl)
          · omega
          · simp_all [canW]
          · omega
        · skip
          refine lv_aload_n hC.1 hC.2.1 dX1_canBeWritten_21 rfl (lv_at hl 1 rfl) ?_
          refine lv_iload_n hC.1 hC.2.1 dX1_canBeWritten_22 rfl (lv_at hl 0 rfl) ?_
          refine cv_I (As := [.int (nI (i))]) (rest := []) hC hK hA hX (c_X1_signAt l G ad (S) (i) (by omega) (ht0 _)) (cwV 1 hC.2.2.2.2 gX1_canBeWritten_X1_signAt rfl rfl rfl hd_X1_signAt ⟨Nat.le_of_ble_eq_true rfl, Nat.le_of_ble_eq_true rfl⟩) (ci := 1) (q := (RX1, TX1, 2)) rfl (q0 := 20) rfl dX1_canBeWritten_23 rfl hl.1 rfl (Nat.le_of_ble_eq_true rfl) ⟨(Nat.zero_le _), (Nat.zero_le _)⟩ (fun r9 S9 H locs hp9 hX => ?_)
          obtain ⟨rfl, hS9⟩ := hp9
          rw [hS9] at hX
          replace hX : HH G A s.heap (wX G ad (S)) H locs := hX
          refine lv_bipush (v := nI (95)) hC.1 hC.2.1 dX1_canBeWritten_26 (by decide +kernel) ?_
          refine n_icmp_eq hC (a := (x_typed S) i) (b := 95) (tgt := 33) dX1_canBeWritten_28 (by decide) (by have := ht0 i; omega) (by decide) (fun c28 => ?_) (fun c28 => ?_)
          · skip
            refine lv_iinc (v := nI (i + 1)) (lv' := [(1, .int (nI (i + 1))), (0, .ref (ad 20))]) hC.1 hC.2.1 dX1_canBeWritten_33 hl (k := 0) rfl (n_inc1 _) (by decide) rfl (fun ls hl => ?_)
            refine lv_goto (tgt := 2) hC.1 hC.2.1 dX1_canBeWritten_36 (by decide) ?_
            refine ih2 (i + 1) ?_ ?_ ?_ _ _ ls hX (lv_sub hl [0, 1] rfl)
            · omega
            · simp_all [canW]
            · omega
          · skip
            refine lv_iconst (v := nI (0)) hC.1 hC.2.1 dX1_canBeWritten_31 rfl ?_
            refine r_zreturn hC hr hlk hX dX1_canBeWritten_32 rfl ?_
            exact ⟨bI_f (fun h => by have := canW_at h.1 i (by omega); simp_all), rfl⟩
  refine loop2 _ (0) ?_ ?_ (Nat.lt_succ_self _) _ _ ls hX (lv_sub hl [0, 1] rfl)
  · omega
  · rfl
