set_option maxHeartbeats 4000000 in
set_option maxRecDepth 100000 in
theorem c_X8_bits (l : Launch) (G : GX) (v0 : Nat) (hv0 : v0 < 2 ^ 31) : CtI l yX8_bits wsX8_bits { frames := 0, cells := 0, slots := 0, locals := 0 } G wP (()) [.int (nI (v0))] (fun r _ => r = nI (popN 31 v0)) 0 0 := by
  refine CtI.of (cc := cX8_bits) (maxL := 3) (ret := some .int) (by decide +kernel) rfl (Nat.le_of_ble_eq_true rfl) ?_
  intro p e s m args below meth c ls A hC hr hlk hin hK hA hX hl
  have hl : lv_has ls 3 [(0, .int (nI (v0)))] := hl
  refine lv_iconst (v := nI (0)) hC.1 hC.2.1 dX8_bits_0 rfl ?_
  refine lv_istore_n (lv' := [(1, .int (nI (0))), (0, .int (nI (v0)))]) hC.1 hC.2.1 dX8_bits_1 rfl hl (by decide) rfl (fun ls hl => ?_)
  refine lv_iload_n hC.1 hC.2.1 dX8_bits_2 rfl (lv_at hl 1 rfl) ?_
  refine lv_istore_n (lv' := [(2, .int (nI (v0))), (1, .int (nI (0))), (0, .int (nI (v0)))]) hC.1 hC.2.1 dX8_bits_3 rfl hl (by decide) rfl (fun ls hl => ?_)
  have loop4 : ∀ (n9 : Nat) (x : Nat) (k : Nat), (x < 2 ^ 31) → (k + popN 31 x = popN 31 v0) → x < n9 → ∀ (H : Heap) (locs : List Loc) (ls : Array Slot), HH G A s.heap (wP ()) H locs → lv_has ls 3 [(2, .int (nI (x))), (1, .int (nI (k))), (0, .int (nI (v0)))] → W p l e { frames := 0, cells := 0, slots := 0, locals := 0 } s m args below meth c H locs 0 0 (EndI G wP A (fun r _ => r = nI (popN 31 v0)) below args s 0 0) (F0 m 4 ls []) := by
    intro n9
    induction n9 with
    | zero => intro x k hx hk hn9; exact absurd hn9 (Nat.not_lt_zero _)
    | succ n9 ih4 =>
      intro x k hx hk hn9 H locs ls hX hl
      refine lv_iload_n hC.1 hC.2.1 dX8_bits_4 rfl (lv_at hl 0 rfl) ?_
      refine n_if_eq hC (a := x) (tgt := 20) dX8_bits_5 (by decide) (by omega) (fun c5 => ?_) (fun c5 => ?_)
      · skip
        refine lv_iload_n hC.1 hC.2.1 dX8_bits_20 rfl (lv_at hl 1 rfl) ?_
        refine r_ireturn hC hr hlk hX dX8_bits_21 ?_
        obtain rfl : x = 0 := by omega
        rw [popN_0] at hk
        rw [← hk, Nat.add_zero]
      · skip
        refine lv_iinc (v := nI (k + 1)) (lv' := [(1, .int (nI (k + 1))), (2, .int (nI (x))), (0, .int (nI (v0)))]) hC.1 hC.2.1 dX8_bits_8 hl (k := 1) rfl (n_inc1 _) (by decide) rfl (fun ls hl => ?_)
        refine lv_iload_n hC.1 hC.2.1 dX8_bits_11 rfl (lv_at hl 1 rfl) ?_
        refine lv_iload_n hC.1 hC.2.1 dX8_bits_12 rfl (lv_at hl 1 rfl) ?_
        refine lv_iconst (v := nI (1)) hC.1 hC.2.1 dX8_bits_13 rfl ?_
        refine n_sub hC (a := x) (b := 1) dX8_bits_14 (by omega) ?_
        refine lv_iand hC.1 hC.2.1 dX8_bits_15 ?_
        refine n_top (y := nI (x &&& (x - 1))) (nI_and _ _) ?_
        refine lv_istore_n (lv' := [(2, .int (nI (x &&& (x - 1)))), (1, .int (nI (k + 1))), (0, .int (nI (v0)))]) hC.1 hC.2.1 dX8_bits_16 rfl hl (by decide) rfl (fun ls hl => ?_)
        refine lv_goto (tgt := 4) hC.1 hC.2.1 dX8_bits_17 (by decide) ?_
        refine ih4 (x &&& (x - 1)) (k + 1) ?_ ?_ ?_ _ _ ls hX (lv_sub hl [0, 1, 2] rfl)
        · exact pop_and hx
        · have h9 := pop_drop 31 (x := x) (by omega) hx
          omega
        · have := and_lt (x := x) (by omega)
          omega
  refine loop4 _ (v0) (0) ?_ ?_ (Nat.lt_succ_self _) _ _ ls hX (lv_sub hl [0, 1, 2] rfl)
  · exact hv0
  · exact Nat.zero_add _
theorem fi_X8_blanks_X8 : ∀ w ∈ wsX80, w ∈ wsX8_blanks := by decide +kernel
set_option maxHeartbeats 4000000 in
set_option maxRecDepth 100000 in
theorem c_X8_blanks (l : Launch) (G : GX) (am : Nat → Nat) (S : MS) (hln : aLen (m_all S) ≤ 120) (hT0 : ∀ i, i < 120 → aTx (m_all S) i < 27) : CtI l yX8_blanks wsX8_blanks { frames := 0, cells := 0, slots := 0, locals := 0 } G (wM G am) (S) [.ref (am 0)] (fun r S' => r = nI (cntV (aTx (m_all S)) 26 (aLen (m_all S))) ∧ S' = S) 0 0 := by
  refine CtI.of (cc := cX8_blanks) (maxL := 3) (ret := some .int) (by decide +kernel) rfl (Nat.le_of_ble_eq_true rfl) ?_
  intro p e s m args below meth c ls A hC hr hlk hin hK hA hX hl
  have hl : lv_has ls 3 [(0, .ref (am 0))] := hl
  have hcv := cntV_le (aTx (m_all S)) 26
  refine lv_iconst (v := nI (0)) hC.1 hC.2.1 dX8_blanks_0 rfl ?_
  refine lv_istore_n (lv' := [(1, .int (nI (0))), (0, .ref (am 0))]) hC.1 hC.2.1 dX8_blanks_1 rfl hl (by decide) rfl (fun ls hl => ?_)
  refine lv_iconst (v := nI (0)) hC.1 hC.2.1 dX8_blanks_2 rfl ?_
  refine lv_istore_n (lv' := [(2, .int (nI (0))), (1, .int (nI (0))), (0, .ref (am 0))]) hC.1 hC.2.1 dX8_blanks_3 rfl hl (by decide) rfl (fun ls hl => ?_)
  have loop4 : ∀ (n9 : Nat) (i : Nat), (i ≤ aLen (m_all S)) → aLen (m_all S) - i < n9 → ∀ (H : Heap) (locs : List Loc) (ls : Array Slot), HH G A s.heap (wM G am (S)) H locs → lv_has ls 3 [(2, .int (nI (i))), (1, .int (nI (cntV (aTx (m_all S)) 26 i))), (0, .ref (am 0))] → W p l e { frames := 0, cells := 0, slots := 0, locals := 0 } s m args below meth c H locs 0 0 (EndI G (wM G am) A (fun r S' => r = nI (cntV (aTx (m_all S)) 26 (aLen (m_all S))) ∧ S' = S) below args s 0 0) (F0 m 4 ls []) := by
    intro n9
    induction n9 with
    | zero => intro i hi hn9; exact absurd hn9 (Nat.not_lt_zero _)
    | succ n9 ih4 =>
      intro i hi hn9 H locs ls hX hl
      refine lv_iload_n hC.1 hC.2.1 dX8_blanks_4 rfl (lv_at hl 0 rfl) ?_
      refine lv_aload_n hC.1 hC.2.1 dX8_blanks_5 rfl (lv_at hl 2 rfl) ?_
      refine g_m_all hC fi_X8_blanks_X8 hK hX (wd9 hC 1 rfl) dX8_blanks_6 ?_
      refine lv_iconst (v := nI (0)) hC.1 hC.2.1 dX8_blanks_9 rfl ?_
      refine l_m_all hC hK hX (i := 0) (by decide) dX8_blanks_10 (v := aLen (m_all S)) rfl ?_
      refine n_icmp_ge hC (a := i) (b := aLen (m_all S)) (tgt := 41) dX8_blanks_11 (by decide) (by omega) (by omega) (fun c11 => ?_) (fun c11 => ?_)
      · skip
        refine lv_iload_n hC.1 hC.2.1 dX8_blanks_41 rfl (lv_at hl 1 rfl) ?_
        refine r_ireturn hC hr hlk hX dX8_blanks_42 ?_
        obtain rfl : i = aLen (m_all S) := by omega
        exact ⟨rfl, rfl⟩
      · skip
        refine lv_iload_n hC.1 hC.2.1 dX8_blanks_14 rfl (lv_at hl 1 rfl) ?_
        refine lv_aload_n hC.1 hC.2.1 dX8_blanks_15 rfl (lv_at hl 2 rfl) ?_
        refine g_m_all hC fi_X8_blanks_X8 hK hX (wd9 hC 1 rfl) dX8_blanks_16 ?_
        refine lv_iconst (v := nI (3)) hC.1 hC.2.1 dX8_blanks_19 rfl ?_
        refine lv_iload_n hC.1 hC.2.1 dX8_blanks_20 rfl (lv_at hl 0 rfl) ?_
        refine n_add hC (a := 3) (b := i) dX8_blanks_21 ?_
        refine l_m_all hC hK hX (i := 3 + i) (by omega) dX8_blanks_22 (v := aTx (m_all S) i) rfl ?_
        refine lv_bipush (v := nI (26)) hC.1 hC.2.1 dX8_blanks_23 (by decide +kernel) ?_
        have join33 : ∀ (H : Heap) (locs : List Loc) (ls : Array Slot), HH G A s.heap (wM G am (S)) H locs → lv_has ls 3 [(2, .int (nI (i))), (1, .int (nI (cntV (aTx (m_all S)) 26 i))), (0, .ref (am 0))] → W p l e { frames := 0, cells := 0, slots := 0, locals := 0 } s m args below meth c H locs 0 0 (EndI G (wM G am) A (fun r S' => r = nI (cntV (aTx (m_all S)) 26 (aLen (m_all S))) ∧ S' = S) below args s 0 0) (F0 m 33 ls [.int (nI (if aTx (m_all S) i = 26 then 1 else 0)), .int (nI (cntV (aTx (m_all S)) 26 i))]) := by
          intro  H locs ls  hX hl
          refine n_add hC (a := cntV (aTx (m_all S)) 26 i) (b := if aTx (m_all S) i = 26 then 1 else 0) dX8_blanks_33 ?_
          refine lv_istore_n (lv' := [(1, .int (nI ((cntV (aTx (m_all S)) 26 i) + (if aTx (m_all S) i = 26 then 1 else 0)))), (2, .int (nI (i))), (0, .ref (am 0))]) hC.1 hC.2.1 dX8_blanks_34 rfl hl (by decide) rfl (fun ls hl => ?_)
          refine lv_iinc (v := nI (i + 1)) (lv' := [(2, .int (nI (i + 1))), (1, .int (nI ((cntV (aTx (m_all S)) 26 i) + (if aTx (m_all S) i = 26 then 1 else 0)))), (0, .ref (am 0))]) hC.1 hC.2.1 dX8_blanks_35 hl (k := 1) rfl (n_inc1 _) (by decide) rfl (fun ls hl => ?_)
          refine lv_goto (tgt := 4) hC.1 hC.2.1 dX8_blanks_38 (by decide) ?_
          refine ih4 (i + 1) ?_ ?_ _ _ ls hX (lv_sub hl [0, 1, 2] rfl)
          · omega
          · omega
        refine n_icmp_ne hC (a := aTx (m_all S) i) (b := 26) (tgt := 32) dX8_blanks_25 (by decide) (by have := hT0 i (by omega); omega) (by decide) (fun c25 => ?_) (fun c25 => ?_)
        · skip
          refine lv_iconst (v := nI (0)) hC.1 hC.2.1 dX8_blanks_32 rfl ?_
          refine n_top (y := nI (if aTx (m_all S) i = 26 then 1 else 0)) (by first | rw [if_pos (by assumption)] | rw [if_neg (by assumption)]) ?_
          refine join33  _ _ ls  hX (lv_sub hl [0, 1, 2] rfl)
        · skip
          refine lv_iconst (v := nI (1)) hC.1 hC.2.1 dX8_blanks_28 rfl ?_
          refine lv_goto (tgt := 33) hC.1 hC.2.1 dX8_blanks_29 (by decide) ?_
          refine n_top (y := nI (if aTx (m_all S) i = 26 then 1 else 0)) (by first | rw [if_pos (by assumption)] | rw [if_neg (by assumption)]) ?_
          refine join33  _ _ ls  hX (lv_sub hl [0, 1, 2] rfl)
  refine loop4 _ (0) ?_ (Nat.lt_succ_self _) _ _ ls hX (lv_sub hl [0, 1, 2] rfl)
  · omega
theorem fi_X8_remember_X8 : ∀ w ∈ wsX80, w ∈ wsX8_remember := by decide +kernel
set_option maxHeartbeats 4000000 in
set_option maxRecDepth 100000 in
theorem c_X8_remember (l : Launch) (G : GX) (am : Nat → Nat) (S : MS)  : CtV l yX8_remember wsX8_remember { frames := 0, cells := 0, slots := 0, locals := 0 } G (wM G am) (S) [.ref (am 0)] (fun S' => ∃ f, S' = w_kept S f ∧ ∀ i, i < 496 → f i = m_all S i) 0 0 := by
  refine CtV.of (cc := cX8_remember) (maxL := 2) (ret := none) (by decide +kernel) rfl (Nat.le_of_ble_eq_true rfl) ?_
  intro p e s m args below meth c ls A hC hr hlk hin hK hA hX hl
  have hl : lv_has ls 2 [(0, .ref (am 0))] := hl
  refine lv_iconst (v := nI (0)) hC.1 hC.2.1 dX8_remember_0 rfl ?_
  refine lv_istore_n (lv' := [(1, .int (nI (0))), (0, .ref (am 0))]) hC.1 hC.2.1 dX8_remember_1 rfl hl (by decide) rfl (fun ls hl => ?_)
  have loop2 : ∀ (n9 : Nat) (i : Nat) (f : Nat → Nat), (i ≤ 496) → (∀ j, j < i → f j = m_all S j) → 496 - i < n9 → ∀ (H : Heap) (locs : List Loc) (ls : Array Slot), HH G A s.heap (wM G am (w_kept (S) (f))) H locs → lv_has ls 2 [(1, .int (nI (i))), (0, .ref (am 0))] → W p l e { frames := 0, cells := 0, slots := 0, locals := 0 } s m args below meth c H locs 0 0 (EndV G (wM G am) A (fun S' => ∃ f, S' = w_kept S f ∧ ∀ i, i < 496 → f i = m_all S i) below args s 0 0) (F0 m 2 ls []) := by
    intro n9
    induction n9 with
    | zero => intro i f hi hf hn9; exact absurd hn9 (Nat.not_lt_zero _)
    | succ n9 ih2 =>
      intro i f hi hf hn9 H locs ls hX hl
      refine lv_iload_n hC.1 hC.2.1 dX8_remember_2 rfl (lv_at hl 0 rfl) ?_
      refine lv_sipush (v := nI (496)) hC.1 hC.2.1 dX8_remember_3 (by decide +kernel) ?_
      refine n_icmp_ge hC (a := i) (b := 496) (tgt := 27) dX8_remember_6 (by decide) (by omega) (by decide) (fun c6 => ?_) (fun c6 => ?_)
      · skip
        refine r_return hC hr hlk hX dX8_remember_27 ?_
        exact ⟨f, rfl, fun j hj => hf j (by omega)⟩
      · skip
        refine lv_aload_n hC.1 hC.2.1 dX8_remember_9 rfl (lv_at hl 1 rfl) ?_
        refine g_m_kept hC fi_X8_remember_X8 hK hX (wd9 hC 1 rfl) dX8_remember_10 ?_
        refine lv_iload_n hC.1 hC.2.1 dX8_remember_13 rfl (lv_at hl 0 rfl) ?_
        refine lv_aload_n hC.1 hC.2.1 dX8_remember_14 rfl (lv_at hl 1 rfl) ?_
        refine g_m_all hC fi_X8_remember_X8 hK hX (wd9 hC 2 rfl) dX8_remember_15 ?_
        refine lv_iload_n hC.1 hC.2.1 dX8_remember_18 rfl (lv_at hl 0 rfl) ?_
        refine l_m_all hC hK hX (i := i) (by omega) dX8_remember_19 (v := (m_all S) i) rfl ?_
        refine s_m_kept hC hK hX (i := i) (v := (m_all S) i) (by omega) dX8_remember_20 (fun H locs hX => ?_)
        replace hX : HH G A s.heap (wM G am (w_kept (S) (va_up (f) (i) ((m_all S) i)))) H locs := hX
        refine lv_iinc (v := nI (i + 1)) (lv' := [(1, .int (nI (i + 1))), (0, .ref (am 0))]) hC.1 hC.2.1 dX8_remember_21 hl (k := 0) rfl (n_inc1 _) (by decide) rfl (fun ls hl => ?_)
        refine lv_goto (tgt := 2) hC.1 hC.2.1 dX8_remember_24 (by decide) ?_
        refine ih2 (i + 1) (va_up (f) (i) ((m_all S) i)) ?_ ?_ ?_ _ _ ls hX (lv_sub hl [0, 1] rfl)
        · omega
        · exact fun j hj => by
            by_cases h : j = i
            · subst h; exact va_up_self _ _ _
            · rw [va_up_ne _ _ h]; exact hf j (by omega)
        · omega
  refine loop2 _ (0) (m_kept S) ?_ ?_ (Nat.lt_succ_self _) _ _ ls hX (lv_sub hl [0, 1] rfl)
  · omega
  · exact fun j h => absurd h (Nat.not_lt_zero _)
theorem fi_X8_beginOf_X8 : ∀ w ∈ wsX80, w ∈ wsX8_beginOf := by decide +kernel
set_option maxHeartbeats 4000000 in
set_option maxRecDepth 100000 in
theorem c_X8_beginOf (l : Launch) (G : GX) (am : Nat → Nat) (S : MS) (p0 k0 K : Nat) (hp0 : p0 < 6) (hpl : aPl (m_all S) p0 ≤ 60) (hk0 : k0 < 121) (he0 : m_endAt S k0 ≤ 120) (hKc : cellK (m_fewest S) (m_begin S) (121 * aPl (m_all S) p0 + m_endAt S k0) K) : CtI l yX8_beginOf wsX8_beginOf { frames := 1, cells := 0, slots := 0, locals := 21 } G (wM G am) (S) [.ref (am 0), .int (nI (p0)), .int (nI (k0))] (fun r S' => r = nI (127 - K % 128) ∧ S' = S) 0 0 := by
  refine CtI.of (cc := cX8_beginOf) (maxL := 3) (ret := some .int) (by decide +kernel) rfl (Nat.le_of_ble_eq_true rfl) ?_
  intro p e s m args below meth c ls A hC hr hlk hin hK hA hX hl
  have hl : lv_has ls 3 [(0, .ref (am 0)), (1, .int (nI (p0))), (2, .int (nI (k0)))] := hl
  refine lv_aload_n hC.1 hC.2.1 dX8_beginOf_0 rfl (lv_at hl 0 rfl) ?_
  refine g_m_begin hC fi_X8_beginOf_X8 hK hX (wd9 hC 1 rfl) dX8_beginOf_1 ?_
  refine lv_bipush (v := nI (121)) hC.1 hC.2.1 dX8_beginOf_4 (by decide +kernel) ?_
  refine lv_aload_n hC.1 hC.2.1 dX8_beginOf_6 rfl (lv_at hl 0 rfl) ?_
  refine lv_iload_n hC.1 hC.2.1 dX8_beginOf_7 rfl (lv_at hl 1 rfl) ?_
  refine cv_I (As := [.int (nI (p0))]) (rest := [.int (nI (121)), .ref (am 6)]) hC hK hA hX (c_X8_places l G am (S) (p0) (by omega)) (cwV 1 hC.2.2.2.2 gX8_beginOf_X8_places rfl rfl rfl hd_X8_places ⟨Nat.le_of_ble_eq_true rfl, Nat.le_of_ble_eq_true rfl⟩) (ci := 8) (q := (RX8, TX8, 21)) rfl (q0 := 0) rfl dX8_beginOf_8 rfl hl.1 rfl (Nat.le_of_ble_eq_true rfl) ⟨(Nat.zero_le _), (Nat.zero_le _)⟩ (fun r9 S9 H locs hp9 hX => ?_)
  obtain ⟨rfl, hS9⟩ := hp9
  rw [hS9] at hX
  replace hX : HH G A s.heap (wM G am (S)) H locs := hX
  refine n_mul hC (a := 121) (b := aPl (m_all S) (p0)) dX8_beginOf_11 ?_
  refine lv_aload_n hC.1 hC.2.1 dX8_beginOf_12 rfl (lv_at hl 0 rfl) ?_
  refine g_m_endAt hC fi_X8_beginOf_X8 hK hX (wd9 hC 2 rfl) dX8_beginOf_13 ?_
  refine lv_iload_n hC.1 hC.2.1 dX8_beginOf_16 rfl (lv_at hl 2 rfl) ?_
  refine l_m_endAt hC hK hX (i := k0) (by omega) dX8_beginOf_17 (v := (m_endAt S) k0) rfl ?_
  refine n_add hC (a := (121) * (aPl (m_all S) (p0))) (b := (m_endAt S) k0) dX8_beginOf_18 ?_
  refine l_m_begin hC hK hX (i := ((121) * (aPl (m_all S) (p0))) + ((m_endAt S) k0)) (by omega) dX8_beginOf_19 (v := nI (127 - K % 128)) hKc.2 ?_
  refine r_ireturn hC hr hlk hX dX8_beginOf_20 ?_
  exact ⟨rfl, rfl⟩
theorem fi_X8_slipsOf_X8 : ∀ w ∈ wsX80, w ∈ wsX8_slipsOf := by decide +kernel
set_option maxHeartbeats 4000000 in
set_option maxRecDepth 100000 in
theorem c_X8_slipsOf (l : Launch) (G : GX) (am : Nat → Nat) (S : MS) (p0 k0 K : Nat) (hp0 : p0 < 6) (hpl : aPl (m_all S) p0 ≤ 60) (hk0 : k0 < 121) (he0 : m_endAt S k0 ≤ 120) (hKc : cellK (m_fewest S) (m_begin S) (121 * aPl (m_all S) p0 + m_endAt S k0) K) : CtI l yX8_slipsOf wsX8_slipsOf { frames := 1, cells := 0, slots := 0, locals := 21 } G (wM G am) (S) [.ref (am 0), .int (nI (p0)), .int (nI (k0))] (fun r S' => r = nI (K / 128) ∧ S' = S) 0 0 := by
  refine CtI.of (cc := cX8_slipsOf) (maxL := 3) (ret := some .int) (by decide +kernel) rfl (Nat.le_of_ble_eq_true rfl) ?_
  intro p e s m args below meth c ls A hC hr hlk hin hK hA hX hl
  have hl : lv_has ls 3 [(0, .ref (am 0)), (1, .int (nI (p0))), (2, .int (nI (k0)))] := hl
  refine lv_aload_n hC.1 hC.2.1 dX8_slipsOf_0 rfl (lv_at hl 0 rfl) ?_
  refine g_m_fewest hC fi_X8_slipsOf_X8 hK hX (wd9 hC 1 rfl) dX8_slipsOf_1 ?_
  refine lv_bipush (v := nI (121)) hC.1 hC.2.1 dX8_slipsOf_4 (by decide +kernel) ?_
  refine lv_aload_n hC.1 hC.2.1 dX8_slipsOf_6 rfl (lv_at hl 0 rfl) ?_
  refine lv_iload_n hC.1 hC.2.1 dX8_slipsOf_7 rfl (lv_at hl 1 rfl) ?_
  refine cv_I (As := [.int (nI (p0))]) (rest := [.int (nI (121)), .ref (am 5)]) hC hK hA hX (c_X8_places l G am (S) (p0) (by omega)) (cwV 1 hC.2.2.2.2 gX8_slipsOf_X8_places rfl rfl rfl hd_X8_places ⟨Nat.le_of_ble_eq_true rfl, Nat.le_of_ble_eq_true rfl⟩) (ci := 8) (q := (RX8, TX8, 21)) rfl (q0 := 0) rfl dX8_slipsOf_8 rfl hl.1 rfl (Nat.le_of_ble_eq_true rfl) ⟨(Nat.zero_le _), (Nat.zero_le _)⟩ (fun r9 S9 H locs hp9 hX => ?_)
  obtain ⟨rfl, hS9⟩ := hp9
  rw [hS9] at hX
  replace hX : HH G A s.heap (wM G am (S)) H locs := hX
  refine n_mul hC (a := 121) (b := aPl (m_all S) (p0)) dX8_slipsOf_11 ?_
  refine lv_aload_n hC.1 hC.2.1 dX8_slipsOf_12 rfl (lv_at hl 0 rfl) ?_
  refine g_m_endAt hC fi_X8_slipsOf_X8 hK hX (wd9 hC 2 rfl) dX8_slipsOf_13 ?_
  refine lv_iload_n hC.1 hC.2.1 dX8_slipsOf_16 rfl (lv_at hl 2 rfl) ?_
  refine l_m_endAt hC hK hX (i := k0) (by omega) dX8_slipsOf_17 (v := (m_endAt S) k0) rfl ?_
  refine n_add hC (a := (121) * (aPl (m_all S) (p0))) (b := (m_endAt S) k0) dX8_slipsOf_18 ?_
  refine l_m_fewest hC hK hX (i := ((121) * (aPl (m_all S) (p0))) + ((m_endAt S) k0)) (by omega) dX8_slipsOf_19 (v := K / 128) hKc.1 ?_
  refine r_ireturn hC hr hlk hX dX8_slipsOf_20 ?_
  exact ⟨rfl, rfl⟩
set_option maxHeartbeats 4000000 in
set_option maxRecDepth 100000 in
theorem c_X8_wildPlaces (l : Launch) (G : GX) (am : Nat → Nat) (S : MS) (p0 : Nat) (hp0 : p0 < 6) (hpl : aPl (m_all S) p0 ≤ 60) (hK0 : ∀ j, j < 60 → aTk (m_all S) p0 j < 2 ^ 31) : CtI l yX8_wildPlaces wsX8_wildPlaces { frames := 1, cells := 0, slots := 0, locals := 22 } G (wM G am) (S) [.ref (am 0), .int (nI (p0))] (fun r S' => r = nI (cntV (aTk (m_all S) p0) 134217727 (aPl (m_all S) p0)) ∧ S' = S) 0 0 := by
  refine CtI.of (cc := cX8_wildPlaces) (maxL := 4) (ret := some .int) (by decide +kernel) rfl (Nat.le_of_ble_eq_true rfl) ?_
  intro p e s m args below meth c ls A hC hr hlk hin hK hA hX hl
  have hl : lv_has ls 4 [(0, .ref (am 0)), (1, .int (nI (p0)))] := hl
  have hcv := cntV_le (aTk (m_all S) p0) 134217727
  refine lv_iconst (v := nI (0)) hC.1 hC.2.1 dX8_wildPlaces_0 rfl ?_
  refine lv_istore_n (lv' := [(2, .int (nI (0))), (0, .ref (am 0)), (1, .int (nI (p0)))]) hC.1 hC.2.1 dX8_wildPlaces_1 rfl hl (by decide) rfl (fun ls hl => ?_)
  refine lv_iconst (v := nI (0)) hC.1 hC.2.1 dX8_wildPlaces_2 rfl ?_
  refine lv_istore_n (lv' := [(3, .int (nI (0))), (2, .int (nI (0))), (0, .ref (am 0)), (1, .int (nI (p0)))]) hC.1 hC.2.1 dX8_wildPlaces_3 rfl hl (by decide) rfl (fun ls hl => ?_)
  have loop4 : ∀ (n9 : Nat) (i : Nat), (i ≤ aPl (m_all S) p0) → aPl (m_all S) p0 - i < n9 → ∀ (H : Heap) (locs : List Loc) (ls : Array Slot), HH G A s.heap (wM G am (S)) H locs → lv_has ls 4 [(3, .int (nI (i))), (2, .int (nI (cntV (aTk (m_all S) p0) 134217727 i))), (0, .ref (am 0)), (1, .int (nI (p0)))] → W p l e { frames := 1, cells := 0, slots := 0, locals := 22 } s m args below meth c H locs 0 0 (EndI G (wM G am) A (fun r S' => r = nI (cntV (aTk (m_all S) p0) 134217727 (aPl (m_all S) p0)) ∧ S' = S) below args s 0 0) (F0 m 4 ls []) := by
    intro n9
    induction n9 with
    | zero => intro i hi hn9; exact absurd hn9 (Nat.not_lt_zero _)
    | succ n9 ih4 =>
      intro i hi hn9 H locs ls hX hl
      refine lv_iload_n hC.1 hC.2.1 dX8_wildPlaces_4 rfl (lv_at hl 0 rfl) ?_
      refine lv_aload_n hC.1 hC.2.1 dX8_wildPlaces_5 rfl (lv_at hl 2 rfl) ?_
      refine lv_iload_n hC.1 hC.2.1 dX8_wildPlaces_6 rfl (lv_at hl 3 rfl) ?_
      refine cv_I (As := [.int (nI (p0))]) (rest := [.int (nI (i))]) hC hK hA hX (c_X8_places l G am (S) (p0) (by omega)) (cwV 1 hC.2.2.2.2 gX8_wildPlaces_X8_places rfl rfl rfl hd_X8_places ⟨Nat.le_of_ble_eq_true rfl, Nat.le_of_ble_eq_true rfl⟩) (ci := 8) (q := (RX8, TX8, 21)) rfl (q0 := 0) rfl dX8_wildPlaces_7 rfl hl.1 rfl (Nat.le_of_ble_eq_true rfl) ⟨(Nat.zero_le _), (Nat.zero_le _)⟩ (fun r9 S9 H locs hp9 hX => ?_)
      obtain ⟨rfl, hS9⟩ := hp9
      rw [hS9] at hX
      replace hX : HH G A s.heap (wM G am (S)) H locs := hX
      refine n_icmp_ge hC (a := i) (b := aPl (m_all S) (p0)) (tgt := 38) dX8_wildPlaces_10 (by decide) (by omega) (by omega) (fun c10 => ?_) (fun c10 => ?_)
      · skip
        refine lv_iload_n hC.1 hC.2.1 dX8_wildPlaces_38 rfl (lv_at hl 1 rfl) ?_
        refine r_ireturn hC hr hlk hX dX8_wildPlaces_39 ?_
        obtain rfl : i = aPl (m_all S) p0 := by omega
        exact ⟨rfl, rfl⟩
      · skip
        refine lv_iload_n hC.1 hC.2.1 dX8_wildPlaces_13 rfl (lv_at hl 1 rfl) ?_
        refine lv_aload_n hC.1 hC.2.1 dX8_wildPlaces_14 rfl (lv_at hl 2 rfl) ?_
        refine lv_iload_n hC.1 hC.2.1 dX8_wildPlaces_15 rfl (lv_at hl 3 rfl) ?_
        refine lv_iload_n hC.1 hC.2.1 dX8_wildPlaces_16 rfl (lv_at hl 0 rfl) ?_
        refine cv_I (As := [.int (nI (p0)), .int (nI (i))]) (rest := [.int (nI (cntV (aTk (m_all S) p0) 134217727 i))]) hC hK hA hX (c_X8_taking l G am (S) (p0) (i) (by omega) (by omega)) (cwV 2 hC.2.2.2.2 gX8_wildPlaces_X8_taking rfl rfl rfl hd_X8_taking ⟨Nat.le_of_ble_eq_true rfl, Nat.le_of_ble_eq_true rfl⟩) (ci := 8) (q := (RX8, TX8, 21)) rfl (q0 := 0) rfl dX8_wildPlaces_17 rfl hl.1 rfl (Nat.le_of_ble_eq_true rfl) ⟨(Nat.zero_le _), (Nat.zero_le _)⟩ (fun r9 S9 H locs hp9 hX => ?_)
        obtain ⟨rfl, hS9⟩ := hp9
        rw [hS9] at hX
        replace hX : HH G A s.heap (wM G am (S)) H locs := hX
        refine lv_ldc (v := (134217727 : Int32)) hC.1 hC.2.1 hC.2.2.2.1 (wd9 hC 1 rfl) dX8_wildPlaces_20 ?_
        refine n_top (y := nI 134217727) (by decide +kernel) ?_
        have join30 : ∀ (H : Heap) (locs : List Loc) (ls : Array Slot), HH G A s.heap (wM G am (S)) H locs → lv_has ls 4 [(3, .int (nI (i))), (2, .int (nI (cntV (aTk (m_all S) p0) 134217727 i))), (0, .ref (am 0)), (1, .int (nI (p0)))] → W p l e { frames := 1, cells := 0, slots := 0, locals := 22 } s m args below meth c H locs 0 0 (EndI G (wM G am) A (fun r S' => r = nI (cntV (aTk (m_all S) p0) 134217727 (aPl (m_all S) p0)) ∧ S' = S) below args s 0 0) (F0 m 30 ls [.int (nI (if aTk (m_all S) p0 i = 134217727 then 1 else 0)), .int (nI (cntV (aTk (m_all S) p0) 134217727 i))]) := by
          intro  H locs ls  hX hl
          refine n_add hC (a := cntV (aTk (m_all S) p0) 134217727 i) (b := if aTk (m_all S) p0 i = 134217727 then 1 else 0) dX8_wildPlaces_30 ?_
          refine lv_istore_n (lv' := [(2, .int (nI ((cntV (aTk (m_all S) p0) 134217727 i) + (if aTk (m_all S) p0 i = 134217727 then 1 else 0)))), (3, .int (nI (i))), (0, .ref (am 0)), (1, .int (nI (p0)))]) hC.1 hC.2.1 dX8_wildPlaces_31 rfl hl (by decide) rfl (fun ls hl => ?_)
          refine lv_iinc (v := nI (i + 1)) (lv' := [(3, .int (nI (i + 1))), (2, .int (nI ((cntV (aTk (m_all S) p0) 134217727 i) + (if aTk (m_all S) p0 i = 134217727 then 1 else 0)))), (0, .ref (am 0)), (1, .int (nI (p0)))]) hC.1 hC.2.1 dX8_wildPlaces_32 hl (k := 1) rfl (n_inc1 _) (by decide) rfl (fun ls hl => ?_)
          refine lv_goto (tgt := 4) hC.1 hC.2.1 dX8_wildPlaces_35 (by decide) ?_
          refine ih4 (i + 1) ?_ ?_ _ _ ls hX (lv_sub hl [0, 1, 2, 3] rfl)
          · omega
          · omega
        refine n_icmp_ne hC (a := aTk (m_all S) (p0) (i)) (b := 134217727) (tgt := 29) dX8_wildPlaces_22 (by decide) (hK0 i (by omega)) (by decide) (fun c22 => ?_) (fun c22 => ?_)
        · skip
          refine lv_iconst (v := nI (0)) hC.1 hC.2.1 dX8_wildPlaces_29 rfl ?_
          refine n_top (y := nI (if aTk (m_all S) p0 i = 134217727 then 1 else 0)) (by first | rw [if_pos (by assumption)] | rw [if_neg (by assumption)]) ?_
          refine join30  _ _ ls  hX (lv_sub hl [0, 1, 2, 3] rfl)
        · skip
          refine lv_iconst (v := nI (1)) hC.1 hC.2.1 dX8_wildPlaces_25 rfl ?_
          refine lv_goto (tgt := 30) hC.1 hC.2.1 dX8_wildPlaces_26 (by decide) ?_
          refine n_top (y := nI (if aTk (m_all S) p0 i = 134217727 then 1 else 0)) (by first | rw [if_pos (by assumption)] | rw [if_neg (by assumption)]) ?_
          refine join30  _ _ ls  hX (lv_sub hl [0, 1, 2, 3] rfl)
  refine loop4 _ (0) ?_ (Nat.lt_succ_self _) _ _ ls hX (lv_sub hl [0, 1, 2, 3] rfl)
  · omega
