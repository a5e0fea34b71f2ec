theorem fi_X8_writePad_X8 : ∀ w ∈ wsX80, w ∈ wsX8_writePad := by decide +kernel
set_option maxHeartbeats 4000000 in
set_option maxRecDepth 100000 in
theorem c_X8_writePad (l : Launch) (G : GX) (am : Nat → Nat) (S : MS) (hok : okM S)  : CtI l yX8_writePad wsX8_writePad { frames := 1, cells := 0, slots := 0, locals := 25 } G (wM G am) (S) [.ref (am 0)] (fun r S' => ((canW (m_pad S) (m_padLong S) && decide (0 < m_padLong S)) = false ∧ r = -2 ∧ S' = S) ∨ ((canW (m_pad S) (m_padLong S) && decide (0 < m_padLong S)) = true ∧ ((120 < aLen (m_all S) + m_padLong S ∧ r = -3 ∧ S' = S) ∨ (aLen (m_all S) + m_padLong S ≤ 120 ∧ r = nI (aLen (m_all S) + m_padLong S) ∧ m_all S' = wrA (m_all S) (m_pad S) (m_padLong S) ∧ actM S S')))) 0 0 := by
  refine CtI.of (cc := cX8_writePad) (maxL := 3) (ret := some .int) (by decide +kernel) rfl (Nat.le_of_ble_eq_true rfl) ?_
  intro p e s m args below meth c ls A hC hr hlk hin hK hA hX hl
  have hl : lv_has ls 3 [(0, .ref (am 0))] := hl
  have hokM := hok
  obtain ⟨hokk, hhl, hhs, hsn, hit, hpl0, hpd0⟩ := hok
  obtain ⟨hLn, hPc, hMs, hTx, hPt⟩ := id hokk
  refine lv_aload_n hC.1 hC.2.1 dX8_writePad_0 rfl (lv_at hl 0 rfl) ?_
  refine g_m_padLong hC fi_X8_writePad_X8 hK hX (wd9 hC 1 rfl) dX8_writePad_1 (v := m_padLong S) rfl ?_
  have join12 : ∀ (H : Heap) (locs : List Loc) (ls : Array Slot), HH G A s.heap (wM G am (S)) H locs → lv_has ls 3 [(0, .ref (am 0))] → W p l e { frames := 1, cells := 0, slots := 0, locals := 25 } s m args below meth c H locs 0 0 (EndI G (wM G am) A (fun r S' => ((canW (m_pad S) (m_padLong S) && decide (0 < m_padLong S)) = false ∧ r = -2 ∧ S' = S) ∨ ((canW (m_pad S) (m_padLong S) && decide (0 < m_padLong S)) = true ∧ ((120 < aLen (m_all S) + m_padLong S ∧ r = -3 ∧ S' = S) ∨ (aLen (m_all S) + m_padLong S ≤ 120 ∧ r = nI (aLen (m_all S) + m_padLong S) ∧ m_all S' = wrA (m_all S) (m_pad S) (m_padLong S) ∧ actM S S')))) below args s 0 0) (F0 m 12 ls [.int (bI (decide (0 < m_padLong S)))]) := by
    intro  H locs ls  hX hl
    refine lv_istore_n (lv' := [(1, .int (bI (decide (0 < m_padLong S)))), (0, .ref (am 0))]) hC.1 hC.2.1 dX8_writePad_12 rfl hl (by decide) rfl (fun ls hl => ?_)
    refine lv_iconst (v := nI (0)) hC.1 hC.2.1 dX8_writePad_13 rfl ?_
    refine lv_istore_n (lv' := [(2, .int (nI (0))), (1, .int (bI (decide (0 < m_padLong S)))), (0, .ref (am 0))]) hC.1 hC.2.1 dX8_writePad_14 rfl hl (by decide) rfl (fun ls hl => ?_)
    have loop15 : ∀ (n9 : Nat) (k : Nat), (k ≤ m_padLong S) → m_padLong S - k < n9 → ∀ (H : Heap) (locs : List Loc) (ls : Array Slot), HH G A s.heap (wM G am (S)) H locs → lv_has ls 3 [(2, .int (nI (k))), (1, .int (bI (canW (m_pad S) k && decide (0 < m_padLong S)))), (0, .ref (am 0))] → W p l e { frames := 1, cells := 0, slots := 0, locals := 25 } s m args below meth c H locs 0 0 (EndI G (wM G am) A (fun r S' => ((canW (m_pad S) (m_padLong S) && decide (0 < m_padLong S)) = false ∧ r = -2 ∧ S' = S) ∨ ((canW (m_pad S) (m_padLong S) && decide (0 < m_padLong S)) = true ∧ ((120 < aLen (m_all S) + m_padLong S ∧ r = -3 ∧ S' = S) ∨ (aLen (m_all S) + m_padLong S ≤ 120 ∧ r = nI (aLen (m_all S) + m_padLong S) ∧ m_all S' = wrA (m_all S) (m_pad S) (m_padLong S) ∧ actM S S')))) below args s 0 0) (F0 m 15 ls []) := by
      intro n9
      induction n9 with
      | zero => intro k hk hn9; exact absurd hn9 (Nat.not_lt_zero _)
      | succ n9 ih15 =>
        intro k hk hn9 H locs ls hX hl
        have hpdk := hpd0 k
        refine lv_iload_n hC.1 hC.2.1 dX8_writePad_15 rfl (lv_at hl 0 rfl) ?_
        refine lv_aload_n hC.1 hC.2.1 dX8_writePad_16 rfl (lv_at hl 2 rfl) ?_
        refine g_m_padLong hC fi_X8_writePad_X8 hK hX (wd9 hC 1 rfl) dX8_writePad_17 (v := m_padLong S) rfl ?_
        refine n_icmp_ge hC (a := k) (b := m_padLong S) (tgt := 69) dX8_writePad_20 (by decide) (by omega) (by omega) (fun c20 => ?_) (fun c20 => ?_)
        · skip
          obtain rfl : k = m_padLong S := by omega
          refine lv_iload_n hC.1 hC.2.1 dX8_writePad_69 rfl (lv_at hl 1 rfl) ?_
          refine b_if_ne hC (b := canW (m_pad S) (m_padLong S) && decide (0 < m_padLong S)) (tgt := 76) dX8_writePad_70 (by decide) (fun c70 => ?_) (fun c70 => ?_)
          · skip
            refine lv_aload_n hC.1 hC.2.1 dX8_writePad_76 rfl (lv_at hl 2 rfl) ?_
            refine g_m_all hC fi_X8_writePad_X8 hK hX (wd9 hC 5 rfl) dX8_writePad_77 ?_
            refine lv_iconst (v := nI (0)) hC.1 hC.2.1 dX8_writePad_80 rfl ?_
            refine l_m_all hC hK hX (i := 0) (by decide) dX8_writePad_81 (v := aLen (m_all S)) rfl ?_
            refine lv_aload_n hC.1 hC.2.1 dX8_writePad_82 rfl (lv_at hl 2 rfl) ?_
            refine g_m_padLong hC fi_X8_writePad_X8 hK hX (wd9 hC 1 rfl) dX8_writePad_83 (v := m_padLong S) rfl ?_
            refine n_add hC (a := aLen (m_all S)) (b := m_padLong S) dX8_writePad_86 ?_
            refine lv_bipush (v := nI (120)) hC.1 hC.2.1 dX8_writePad_87 (by decide +kernel) ?_
            refine n_icmp_le hC (a := (aLen (m_all S)) + (m_padLong S)) (b := 120) (tgt := 95) dX8_writePad_89 (by decide) (by omega) (by decide) (fun c89 => ?_) (fun c89 => ?_)
            · skip
              refine lv_aload_n hC.1 hC.2.1 dX8_writePad_95 rfl (lv_at hl 2 rfl) ?_
              refine cv_V (As := []) (rest := []) hC hK hA hX (c_X8_remember l G am (S) ) (cwV 0 hC.2.2.2.2 gX8_writePad_X8_remember rfl rfl rfl hd_X8_remember ⟨Nat.le_of_ble_eq_true rfl, Nat.le_of_ble_eq_true rfl⟩) (ci := 8) (q := (RX8, TX8, 21)) rfl (q0 := 0) rfl dX8_writePad_96 rfl hl.1 rfl (Nat.le_of_ble_eq_true rfl) ⟨(Nat.zero_le _), (Nat.zero_le _)⟩ (fun S9 H locs hp9 hX => ?_)
              obtain ⟨kp96, hS9, hkp96⟩ := hp9
              rw [hS9] at hX
              replace hX : HH G A s.heap (wM G am (w_kept (S) (kp96))) H locs := hX
              refine lv_iconst (v := nI (0)) hC.1 hC.2.1 dX8_writePad_99 rfl ?_
              refine lv_istore_n (lv' := [(2, .int (nI (0))), (1, .int (bI (canW (m_pad S) (m_padLong S) && decide (0 < m_padLong S)))), (0, .ref (am 0))]) hC.1 hC.2.1 dX8_writePad_100 rfl hl (by decide) rfl (fun ls hl => ?_)
              have loop101 : ∀ (n9 : Nat) (j : Nat), (j ≤ m_padLong S) → m_padLong S - j < n9 → ∀ (H : Heap) (locs : List Loc) (ls : Array Slot), HH G A s.heap (wM G am (w_kept (w_all (S) (wrA (m_all S) (m_pad S) j)) (kp96))) H locs → lv_has ls 3 [(2, .int (nI (j))), (1, .int (bI (canW (m_pad S) (m_padLong S) && decide (0 < m_padLong S)))), (0, .ref (am 0))] → W p l e { frames := 1, cells := 0, slots := 0, locals := 25 } s m args below meth c H locs 0 0 (EndI G (wM G am) A (fun r S' => ((canW (m_pad S) (m_padLong S) && decide (0 < m_padLong S)) = false ∧ r = -2 ∧ S' = S) ∨ ((canW (m_pad S) (m_padLong S) && decide (0 < m_padLong S)) = true ∧ ((120 < aLen (m_all S) + m_padLong S ∧ r = -3 ∧ S' = S) ∨ (aLen (m_all S) + m_padLong S ≤ 120 ∧ r = nI (aLen (m_all S) + m_padLong S) ∧ m_all S' = wrA (m_all S) (m_pad S) (m_padLong S) ∧ actM S S')))) below args s 0 0) (F0 m 101 ls []) := by
                intro n9
                induction n9 with
                | zero => intro j hj hn9; exact absurd hn9 (Nat.not_lt_zero _)
                | succ n9 ih101 =>
                  intro j hj hn9 H locs ls hX hl
                  have hpdj := hpd0 j
                  refine lv_iload_n hC.1 hC.2.1 dX8_writePad_101 rfl (lv_at hl 0 rfl) ?_
                  refine lv_aload_n hC.1 hC.2.1 dX8_writePad_102 rfl (lv_at hl 2 rfl) ?_
                  refine g_m_padLong hC fi_X8_writePad_X8 hK hX (wd9 hC 1 rfl) dX8_writePad_103 (v := m_padLong S) rfl ?_
                  refine n_icmp_ge hC (a := j) (b := m_padLong S) (tgt := 144) dX8_writePad_106 (by decide) (by omega) (by omega) (fun c106 => ?_) (fun c106 => ?_)
                  · skip
                    refine lv_aload_n hC.1 hC.2.1 dX8_writePad_144 rfl (lv_at hl 2 rfl) ?_
                    refine lv_aload_n hC.1 hC.2.1 dX8_writePad_145 rfl (lv_at hl 2 rfl) ?_
                    refine g_m_all hC fi_X8_writePad_X8 hK hX (wd9 hC 5 rfl) dX8_writePad_146 ?_
                    refine lv_iconst (v := nI (0)) hC.1 hC.2.1 dX8_writePad_149 rfl ?_
                    refine l_m_all hC hK hX (i := 0) (by decide) dX8_writePad_150 (v := aLen (m_all S) + m_padLong S) ((wrA_len _ _ _).trans (by omega)) ?_
                    refine cv_I (As := [.int (nI (aLen (m_all S) + m_padLong S))]) (rest := []) hC hK hA hX (c_X8_acted l G am (w_kept (w_all (S) (wrA (m_all S) (m_pad S) j)) (kp96)) hhl (nI (aLen (m_all S) + m_padLong S))) (cwV 1 hC.2.2.2.2 gX8_writePad_X8_acted rfl rfl rfl hd_X8_acted ⟨Nat.le_of_ble_eq_true rfl, Nat.le_of_ble_eq_true rfl⟩) (ci := 8) (q := (RX8, TX8, 21)) rfl (q0 := 0) rfl dX8_writePad_151 rfl hl.1 rfl (Nat.le_of_ble_eq_true rfl) ⟨(Nat.zero_le _), (Nat.zero_le _)⟩ (fun r9 S9 H locs hp9 hX => ?_)
                    obtain ⟨h9, hh151, hS9, hrec151⟩ := hp9
                    rw [hS9] at hX
                    obtain rfl : r9 = _ := h9
                    replace hX : HH G A s.heap (wM G am (w_hlong (w_hist (w_kept (w_all (S) (wrA (m_all S) (m_pad S) j)) (kp96)) (hh151)) (mHl (w_kept (w_all (S) (wrA (m_all S) (m_pad S) j)) (kp96)) + 1))) H locs := hX
                    refine r_ireturn hC hr hlk hX dX8_writePad_154 ?_
                    obtain rfl : j = m_padLong S := by omega
                    exact Or.inr ⟨c70, Or.inr ⟨by omega, rfl, rfl, act_of hrec151 rfl rfl hkp96 rfl rfl rfl rfl⟩⟩
                  · skip
                    refine lv_aload_n hC.1 hC.2.1 dX8_writePad_109 rfl (lv_at hl 2 rfl) ?_
                    refine lv_aload_n hC.1 hC.2.1 dX8_writePad_110 rfl (lv_at hl 2 rfl) ?_
                    refine g_m_pad hC fi_X8_writePad_X8 hK hX (wd9 hC 2 rfl) dX8_writePad_111 ?_
                    refine lv_iload_n hC.1 hC.2.1 dX8_writePad_114 rfl (lv_at hl 0 rfl) ?_
                    refine l_m_pad hC hK hX (i := j) (by omega) dX8_writePad_115 (v := m_pad S j) rfl ?_
                    have join135 : ∀ (H : Heap) (locs : List Loc) (ls : Array Slot), HH G A s.heap (wM G am (w_kept (w_all (S) (wrA (m_all S) (m_pad S) j)) (kp96))) H locs → lv_has ls 3 [(2, .int (nI (j))), (1, .int (bI (canW (m_pad S) (m_padLong S) && decide (0 < m_padLong S)))), (0, .ref (am 0))] → W p l e { frames := 1, cells := 0, slots := 0, locals := 25 } s m args below meth c H locs 0 0 (EndI G (wM G am) A (fun r S' => ((canW (m_pad S) (m_padLong S) && decide (0 < m_padLong S)) = false ∧ r = -2 ∧ S' = S) ∨ ((canW (m_pad S) (m_padLong S) && decide (0 < m_padLong S)) = true ∧ ((120 < aLen (m_all S) + m_padLong S ∧ r = -3 ∧ S' = S) ∨ (aLen (m_all S) + m_padLong S ≤ 120 ∧ r = nI (aLen (m_all S) + m_padLong S) ∧ m_all S' = wrA (m_all S) (m_pad S) (m_padLong S) ∧ actM S S')))) below args s 0 0) (F0 m 135 ls [.int (nI (cod95 (m_pad S j))), .ref (am 0)]) := by
                      intro  H locs ls  hX hl
                      refine cv_V (As := [.int (nI (cod95 (m_pad S j)))]) (rest := []) hC hK hA hX (c_X8_writes l G am (w_kept (w_all (S) (wrA (m_all S) (m_pad S) j)) (kp96)) (cod95 (m_pad S j)) (show aLen (wrA (m_all S) (m_pad S) j) < 120 from by rw [wrA_len]; omega)) (cwV 1 hC.2.2.2.2 gX8_writePad_X8_writes rfl rfl rfl hd_X8_writes ⟨Nat.le_of_ble_eq_true rfl, Nat.le_of_ble_eq_true rfl⟩) (ci := 8) (q := (RX8, TX8, 21)) rfl (q0 := 0) rfl dX8_writePad_135 rfl hl.1 rfl (Nat.le_of_ble_eq_true rfl) ⟨(Nat.zero_le _), (Nat.zero_le _)⟩ (fun S9 H locs hp9 hX => ?_)
                      rw [hp9] at hX
                      replace hX : HH G A s.heap (wM G am (w_kept (w_all (S) (wA (wrA (m_all S) (m_pad S) j) (cod95 (m_pad S j)))) (kp96))) H locs := hX
                      refine lv_iinc (v := nI (j + 1)) (lv' := [(2, .int (nI (j + 1))), (1, .int (bI (canW (m_pad S) (m_padLong S) && decide (0 < m_padLong S)))), (0, .ref (am 0))]) hC.1 hC.2.1 dX8_writePad_138 hl (k := 0) rfl (n_inc1 _) (by decide) rfl (fun ls hl => ?_)
                      refine lv_goto (tgt := 101) hC.1 hC.2.1 dX8_writePad_141 (by decide) ?_
                      refine ih101 (j + 1) ?_ ?_ _ _ ls hX (lv_sub hl [0, 1, 2] rfl)
                      · omega
                      · omega
                    refine lv_bipush (v := nI (95)) hC.1 hC.2.1 dX8_writePad_116 (by decide +kernel) ?_
                    refine n_icmp_ne hC (a := m_pad S j) (b := 95) (tgt := 126) dX8_writePad_118 (by decide) (by omega) (by decide) (fun c118 => ?_) (fun c118 => ?_)
                    · skip
                      have hz := canW_let (Bool.and_eq_true _ _ ▸ c70).1 (show j < m_padLong S by omega) c118
                      refine lv_aload_n hC.1 hC.2.1 dX8_writePad_126 rfl (lv_at hl 2 rfl) ?_
                      refine g_m_pad hC fi_X8_writePad_X8 hK hX (wd9 hC 2 rfl) dX8_writePad_127 ?_
                      refine lv_iload_n hC.1 hC.2.1 dX8_writePad_130 rfl (lv_at hl 0 rfl) ?_
                      refine l_m_pad hC hK hX (i := j) (by omega) dX8_writePad_131 (v := m_pad S j) rfl ?_
                      refine lv_bipush (v := nI (97)) hC.1 hC.2.1 dX8_writePad_132 (by decide +kernel) ?_
                      refine n_sub hC (a := m_pad S j) (b := 97) dX8_writePad_134 (by omega) ?_
                      refine n_top (y := nI (cod95 (m_pad S j))) (by unfold cod95; first | rw [if_pos c118] | rw [if_neg c118]) ?_
                      refine join135  _ _ ls  hX (lv_sub hl [0, 1, 2] rfl)
                    · skip
                      refine lv_bipush (v := nI (26)) hC.1 hC.2.1 dX8_writePad_121 (by decide +kernel) ?_
                      refine lv_goto (tgt := 135) hC.1 hC.2.1 dX8_writePad_123 (by decide) ?_
                      refine n_top (y := nI (cod95 (m_pad S j))) (by unfold cod95; first | rw [if_pos c118] | rw [if_neg c118]) ?_
                      refine join135  _ _ ls  hX (lv_sub hl [0, 1, 2] rfl)
              refine loop101 _ (0) ?_ (Nat.lt_succ_self _) _ _ ls hX (lv_sub hl [0, 1, 2] rfl)
              · omega
            · skip
              refine lv_bipush (v := (-3)) hC.1 hC.2.1 dX8_writePad_92 (by decide +kernel) ?_
              refine r_ireturn hC hr hlk hX dX8_writePad_94 ?_
              exact Or.inr ⟨c70, Or.inl ⟨by omega, rfl, rfl⟩⟩
          · skip
            refine lv_bipush (v := (-2)) hC.1 hC.2.1 dX8_writePad_73 (by decide +kernel) ?_
            refine r_ireturn hC hr hlk hX dX8_writePad_75 ?_
            exact Or.inl ⟨c70, rfl, rfl⟩
        · skip
          have join62 : ∀ (H : Heap) (locs : List Loc) (ls : Array Slot), HH G A s.heap (wM G am (S)) H locs → lv_has ls 3 [(2, .int (nI (k))), (1, .int (bI (canW (m_pad S) k && decide (0 < m_padLong S)))), (0, .ref (am 0))] → W p l e { frames := 1, cells := 0, slots := 0, locals := 25 } s m args below meth c H locs 0 0 (EndI G (wM G am) A (fun r S' => ((canW (m_pad S) (m_padLong S) && decide (0 < m_padLong S)) = false ∧ r = -2 ∧ S' = S) ∨ ((canW (m_pad S) (m_padLong S) && decide (0 < m_padLong S)) = true ∧ ((120 < aLen (m_all S) + m_padLong S ∧ r = -3 ∧ S' = S) ∨ (aLen (m_all S) + m_padLong S ≤ 120 ∧ r = nI (aLen (m_all S) + m_padLong S) ∧ m_all S' = wrA (m_all S) (m_pad S) (m_padLong S) ∧ actM S S')))) below args s 0 0) (F0 m 62 ls [.int (bI (canW (m_pad S) (k + 1) && decide (0 < m_padLong S)))]) := by
            intro  H locs ls  hX hl
            refine lv_istore_n (lv' := [(1, .int (bI (canW (m_pad S) (k + 1) && decide (0 < m_padLong S)))), (2, .int (nI (k))), (0, .ref (am 0))]) hC.1 hC.2.1 dX8_writePad_62 rfl hl (by decide) rfl (fun ls hl => ?_)
            refine lv_iinc (v := nI (k + 1)) (lv' := [(2, .int (nI (k + 1))), (1, .int (bI (canW (m_pad S) (k + 1) && decide (0 < m_padLong S)))), (0, .ref (am 0))]) hC.1 hC.2.1 dX8_writePad_63 hl (k := 1) rfl (n_inc1 _) (by decide) rfl (fun ls hl => ?_)
            refine lv_goto (tgt := 15) hC.1 hC.2.1 dX8_writePad_66 (by decide) ?_
            refine ih15 (k + 1) ?_ ?_ _ _ ls hX (lv_sub hl [0, 1, 2] rfl)
            · omega
            · omega
          refine lv_iload_n hC.1 hC.2.1 dX8_writePad_23 rfl (lv_at hl 1 rfl) ?_
          refine b_if_eq hC (b := canW (m_pad S) k && decide (0 < m_padLong S)) (tgt := 61) dX8_writePad_24 (by decide) (fun c24 => ?_) (fun c24 => ?_)
          · skip
            refine lv_iconst (v := nI (0)) hC.1 hC.2.1 dX8_writePad_61 rfl ?_
            refine n_top (y := bI (canW (m_pad S) (k + 1) && decide (0 < m_padLong S))) (by first | exact bI_1 (canP_t c24 (Or.inr c35)) | exact bI_1 (canP_t c24 (Or.inl c54)) | exact bI_0 (canP_f1 c24) | exact bI_0 (canP_f2 c54 c35)) ?_
            refine join62  _ _ ls  hX (lv_sub hl [0, 1, 2] rfl)
          · skip
            refine lv_aload_n hC.1 hC.2.1 dX8_writePad_27 rfl (lv_at hl 2 rfl) ?_
            refine g_m_pad hC fi_X8_writePad_X8 hK hX (wd9 hC 2 rfl) dX8_writePad_28 ?_
            refine lv_iload_n hC.1 hC.2.1 dX8_writePad_31 rfl (lv_at hl 0 rfl) ?_
            refine l_m_pad hC hK hX (i := k) (by omega) dX8_writePad_32 (v := m_pad S k) rfl ?_
            refine lv_bipush (v := nI (95)) hC.1 hC.2.1 dX8_writePad_33 (by decide +kernel) ?_
            refine n_icmp_eq hC (a := m_pad S k) (b := 95) (tgt := 57) dX8_writePad_35 (by decide) (by omega) (by decide) (fun c35 => ?_) (fun c35 => ?_)
            · skip
              refine lv_iconst (v := nI (1)) hC.1 hC.2.1 dX8_writePad_57 rfl ?_
              refine lv_goto (tgt := 62) hC.1 hC.2.1 dX8_writePad_58 (by decide) ?_
              refine n_top (y := bI (canW (m_pad S) (k + 1) && decide (0 < m_padLong S))) (by first | exact bI_1 (canP_t c24 (Or.inr c35)) | exact bI_1 (canP_t c24 (Or.inl c54)) | exact bI_0 (canP_f1 c24) | exact bI_0 (canP_f2 c54 c35)) ?_
              refine join62  _ _ ls  hX (lv_sub hl [0, 1, 2] rfl)
            · skip
              refine lv_aload_n hC.1 hC.2.1 dX8_writePad_38 rfl (lv_at hl 2 rfl) ?_
              refine g_m_pad hC fi_X8_writePad_X8 hK hX (wd9 hC 2 rfl) dX8_writePad_39 ?_
              refine lv_iload_n hC.1 hC.2.1 dX8_writePad_42 rfl (lv_at hl 0 rfl) ?_
              refine l_m_pad hC hK hX (i := k) (by omega) dX8_writePad_43 (v := m_pad S k) rfl ?_
              refine lv_i2l (v := lN (m_pad S k)) hC.1 hC.2.1 dX8_writePad_44 (nI_l (by omega)) ?_
              refine lv_ldc2 (v := (97 : Int64)) hC.1 hC.2.1 hC.2.2.2.1 (wd9 hC 3 rfl) dX8_writePad_45 ?_
              refine lv_ldc2 (v := (122 : Int64)) hC.1 hC.2.1 hC.2.2.2.1 (wd9 hC 4 rfl) dX8_writePad_48 ?_
              refine ps_I (As := [.long (lN (m_pad S k)), .long ((97 : Int64)), .long ((122 : Int64))]) (rest := []) hC hK hA hX (c_X8_in l G (lN (m_pad S k)) ((97 : Int64)) ((122 : Int64))) (va_cwS 3 hC.2.2.2.2 gX8_writePad_X8_in rfl rfl rfl hd_X8_in_s ⟨Nat.le_of_ble_eq_true rfl, Nat.le_of_ble_eq_true rfl⟩) dX8_writePad_51 rfl hl.1 rfl (Nat.le_of_ble_eq_true rfl) ⟨(Nat.zero_le _), (Nat.zero_le _)⟩ (fun r9 S9 H locs hp9 hX => ?_)
              obtain rfl : r9 = bI (isLet (m_pad S k)) := by rw [hp9, (show inL (lN (m_pad S k)) (97 : Int64) (122 : Int64) = isLet (m_pad S k) from inL_n (c := 122) (b := 97) (by omega) (by decide) (by decide))]
              replace hX : HH G A s.heap (wM G am (S)) H locs := hX
              refine b_if_eq hC (b := isLet (m_pad S k)) (tgt := 61) dX8_writePad_54 (by decide) (fun c54 => ?_) (fun c54 => ?_)
              · skip
                refine lv_iconst (v := nI (0)) hC.1 hC.2.1 dX8_writePad_61 rfl ?_
                refine n_top (y := bI (canW (m_pad S) (k + 1) && decide (0 < m_padLong S))) (by first | exact bI_1 (canP_t c24 (Or.inr c35)) | exact bI_1 (canP_t c24 (Or.inl c54)) | exact bI_0 (canP_f1 c24) | exact bI_0 (canP_f2 c54 c35)) ?_
                refine join62  _ _ ls  hX (lv_sub hl [0, 1, 2] rfl)
              · skip
                refine lv_iconst (v := nI (1)) hC.1 hC.2.1 dX8_writePad_57 rfl ?_
                refine lv_goto (tgt := 62) hC.1 hC.2.1 dX8_writePad_58 (by decide) ?_
                refine n_top (y := bI (canW (m_pad S) (k + 1) && decide (0 < m_padLong S))) (by first | exact bI_1 (canP_t c24 (Or.inr c35)) | exact bI_1 (canP_t c24 (Or.inl c54)) | exact bI_0 (canP_f1 c24) | exact bI_0 (canP_f2 c54 c35)) ?_
                refine join62  _ _ ls  hX (lv_sub hl [0, 1, 2] rfl)
    refine loop15 _ (0) ?_ (Nat.lt_succ_self _) _ _ ls hX (lv_sub hl [0, 1, 2] rfl)
    · omega
  refine n_if_le hC (a := m_padLong S) (tgt := 11) dX8_writePad_4 (by decide) (by omega) (fun c4 => ?_) (fun c4 => ?_)
  · skip
    refine lv_iconst (v := nI (0)) hC.1 hC.2.1 dX8_writePad_11 rfl ?_
    refine n_top (y := bI (decide (0 < m_padLong S))) (by first | exact bI_t (by omega) | exact bI_f (by omega)) ?_
    refine join12  _ _ ls  hX (lv_sub hl [0] rfl)
  · skip
    refine lv_iconst (v := nI (1)) hC.1 hC.2.1 dX8_writePad_7 rfl ?_
    refine lv_goto (tgt := 12) hC.1 hC.2.1 dX8_writePad_8 (by decide) ?_
    refine n_top (y := bI (decide (0 < m_padLong S))) (by first | exact bI_t (by omega) | exact bI_f (by omega)) ?_
    refine join12  _ _ ls  hX (lv_sub hl [0] rfl)
theorem hd_X8_fault : yX8_fault.cls = RX8 ∧ yX8_fault.cls ≠ "java/lang/invoke/MethodHandle" ∧ yX8_fault.cls ≠ "java/lang/invoke/VarHandle" ∧ (parseMethodDescriptor yX8_fault.desc).map (fun d => d.parameters.length) = some 0 := by decide +kernel
theorem fi_X8_addPattern_X8 : ∀ w ∈ wsX80, w ∈ wsX8_addPattern := by decide +kernel
set_option maxHeartbeats 4000000 in
set_option maxRecDepth 100000 in
theorem c_X8_addPattern (l : Launch) (G : GX) (am : Nat → Nat) (S : MS) (hok : okM S) (R0 : RD) (hm0 : rd_mode R0 = 0) (hc0 : rd_cnt R0 = 0) (hb0 : rd_bound R0 = false) : CtI l yX8_addPattern wsX8_addPattern { frames := 6, cells := 0, slots := 0, locals := 133 } G (wM G am) (S) [.ref (am 0)] (fun r S' => (∃ sp, r = (-100) - nI sp ∧ sp ≤ m_padLong S ∧ rdBad (m_pad S) R0 (m_padLong S) sp ∧ samM S S') ∨ ∃ rp rt bd, rdOK (m_pad S) R0 (m_padLong S) (m_padLong S) rp rt bd ∧ ((aPc (m_all S) = 6 ∧ r = -3 ∧ samM S S') ∨ (aPc (m_all S) < 6 ∧ r = nI (aPc (m_all S)) ∧ newA (m_all S) (m_all S') rp rt bd ∧ actM S S'))) 0 0 := by
  refine CtI.of (cc := cX8_addPattern) (maxL := 4) (ret := some .int) (by decide +kernel) rfl (Nat.le_of_ble_eq_true rfl) ?_
  intro p e s m args below meth c ls A hC hr hlk hin hK hA hX hl
  have hl : lv_has ls 4 [(0, .ref (am 0))] := hl
  have hokM := hok
  obtain ⟨hokk, hhl, hhs, hsn, hit, hpl0, hpd0⟩ := hok
  obtain ⟨hLn, hPc, hMs, hTx, hPt⟩ := id hokk
  refine lv_aload_n hC.1 hC.2.1 dX8_addPattern_0 rfl (lv_at hl 0 rfl) ?_
  refine cv_I (As := []) (rest := []) hC hK hA hX (c_X8_fault l G am (S) R0 hm0 hc0 hb0 hpl0 hpd0) (cwV 0 hC.2.2.2.2 gX8_addPattern_X8_fault rfl rfl rfl hd_X8_fault ⟨Nat.le_of_ble_eq_true rfl, Nat.le_of_ble_eq_true rfl⟩) (ci := 8) (q := (RX8, TX8, 21)) rfl (q0 := 0) rfl dX8_addPattern_1 rfl hl.1 rfl (Nat.le_of_ble_eq_true rfl) ⟨(Nat.zero_le _), (Nat.zero_le _)⟩ (fun r9 S9 H locs hp9 hX => ?_)
  obtain ⟨sp1, rp1, rt1, bd1, hS9, hr1⟩ := hp9
  rw [hS9] at hX
  replace hX : HH G A s.heap (wM G am (w_readTakes (w_readPlaces (w_readBound (w_spot (S) (sp1)) (bN bd1)) (rp1)) (rt1))) H locs := hX
  rcases hr1 with ⟨rfl, hOK1⟩ | ⟨rfl, hsp1, hBad1⟩
  · skip
    refine lv_istore_n (lv' := [(1, .int ((-5))), (0, .ref (am 0))]) hC.1 hC.2.1 dX8_addPattern_4 rfl hl (by decide) rfl (fun ls hl => ?_)
    refine lv_iload_n hC.1 hC.2.1 dX8_addPattern_5 rfl (lv_at hl 0 rfl) ?_
    refine lv_bipush (v := (-5)) hC.1 hC.2.1 dX8_addPattern_6 (by decide +kernel) ?_
    refine lv_icmp_eq hC.1 hC.2.1 (x := (-5)) (y := (-5)) (tgt := 16) dX8_addPattern_8 (by decide) (fun c8 => ?_) (fun c8 => by first | exact absurd c8 (by decide) | exact absurd (by decide) c8)
    refine lv_aload_n hC.1 hC.2.1 dX8_addPattern_16 rfl (lv_at hl 1 rfl) ?_
    refine g_m_all hC fi_X8_addPattern_X8 hK hX (wd9 hC 1 rfl) dX8_addPattern_17 ?_
    refine lv_iconst (v := nI (1)) hC.1 hC.2.1 dX8_addPattern_20 rfl ?_
    refine l_m_all hC hK hX (i := 1) (by decide) dX8_addPattern_21 (v := aPc (m_all S)) rfl ?_
    refine lv_bipush (v := nI (6)) hC.1 hC.2.1 dX8_addPattern_22 (by decide +kernel) ?_
    refine n_icmp_ne hC (a := aPc (m_all S)) (b := 6) (tgt := 30) dX8_addPattern_24 (by decide) (by omega) (by decide) (fun c24 => ?_) (fun c24 => ?_)
    · skip
      have hrp1 := (rdOK_le hOK1).2
      refine lv_aload_n hC.1 hC.2.1 dX8_addPattern_30 rfl (lv_at hl 1 rfl) ?_
      refine cv_V (As := []) (rest := []) hC hK hA hX (c_X8_remember l G am (w_readTakes (w_readPlaces (w_readBound (w_spot (S) (sp1)) (bN bd1)) (rp1)) (rt1)) ) (cwV 0 hC.2.2.2.2 gX8_addPattern_X8_remember rfl rfl rfl hd_X8_remember ⟨Nat.le_of_ble_eq_true rfl, Nat.le_of_ble_eq_true rfl⟩) (ci := 8) (q := (RX8, TX8, 21)) rfl (q0 := 0) rfl dX8_addPattern_31 rfl hl.1 rfl (Nat.le_of_ble_eq_true rfl) ⟨(Nat.zero_le _), (Nat.zero_le _)⟩ (fun S9 H locs hp9 hX => ?_)
      obtain ⟨kp31, hS9, hkp31⟩ := hp9
      rw [hS9] at hX
      replace hX : HH G A s.heap (wM G am (w_readTakes (w_readPlaces (w_readBound (w_spot (w_kept (S) (kp31)) (sp1)) (bN bd1)) (rp1)) (rt1))) H locs := hX
      refine lv_bipush (v := nI (123)) hC.1 hC.2.1 dX8_addPattern_34 (by decide +kernel) ?_
      refine lv_bipush (v := nI (62)) hC.1 hC.2.1 dX8_addPattern_36 (by decide +kernel) ?_
      refine lv_aload_n hC.1 hC.2.1 dX8_addPattern_38 rfl (lv_at hl 1 rfl) ?_
      refine g_m_all hC fi_X8_addPattern_X8 hK hX (wd9 hC 1 rfl) dX8_addPattern_39 ?_
      refine lv_iconst (v := nI (1)) hC.1 hC.2.1 dX8_addPattern_42 rfl ?_
      refine l_m_all hC hK hX (i := 1) (by decide) dX8_addPattern_43 (v := aPc (m_all S)) rfl ?_
      refine n_mul hC (a := 62) (b := aPc (m_all S)) dX8_addPattern_44 ?_
      refine n_add hC (a := 123) (b := (62) * (aPc (m_all S))) dX8_addPattern_45 ?_
      refine lv_istore_n (lv' := [(2, .int (nI ((123) + ((62) * (aPc (m_all S)))))), (1, .int ((-5))), (0, .ref (am 0))]) hC.1 hC.2.1 dX8_addPattern_46 rfl hl (by decide) rfl (fun ls hl => ?_)
      refine lv_aload_n hC.1 hC.2.1 dX8_addPattern_47 rfl (lv_at hl 2 rfl) ?_
      refine g_m_all hC fi_X8_addPattern_X8 hK hX (wd9 hC 1 rfl) dX8_addPattern_48 ?_
      refine lv_iload_n hC.1 hC.2.1 dX8_addPattern_51 rfl (lv_at hl 0 rfl) ?_
      refine lv_aload_n hC.1 hC.2.1 dX8_addPattern_52 rfl (lv_at hl 2 rfl) ?_
      refine g_m_readPlaces hC fi_X8_addPattern_X8 hK hX (wd9 hC 2 rfl) dX8_addPattern_53 (v := rp1) rfl ?_
      refine s_m_all hC hK hX (i := (123) + ((62) * (aPc (m_all S)))) (v := rp1) (by omega) dX8_addPattern_56 (fun H locs hX => ?_)
      replace hX : HH G A s.heap (wM G am (w_readTakes (w_readPlaces (w_readBound (w_spot (w_kept (w_all (S) (va_up (m_all S) ((123) + ((62) * (aPc (m_all S)))) (rp1))) (kp31)) (sp1)) (bN bd1)) (rp1)) (rt1))) H locs := hX
      refine lv_aload_n hC.1 hC.2.1 dX8_addPattern_57 rfl (lv_at hl 2 rfl) ?_
      refine g_m_all hC fi_X8_addPattern_X8 hK hX (wd9 hC 1 rfl) dX8_addPattern_58 ?_
      refine lv_iload_n hC.1 hC.2.1 dX8_addPattern_61 rfl (lv_at hl 0 rfl) ?_
      refine lv_iconst (v := nI (1)) hC.1 hC.2.1 dX8_addPattern_62 rfl ?_
      refine n_add hC (a := (123) + ((62) * (aPc (m_all S)))) (b := 1) dX8_addPattern_63 ?_
      refine lv_aload_n hC.1 hC.2.1 dX8_addPattern_64 rfl (lv_at hl 2 rfl) ?_
      refine g_m_readBound hC fi_X8_addPattern_X8 hK hX (wd9 hC 3 rfl) dX8_addPattern_65 (v := bN bd1) rfl ?_
      refine s_m_all hC hK hX (i := ((123) + ((62) * (aPc (m_all S)))) + (1)) (v := bN bd1) (by omega) dX8_addPattern_68 (fun H locs hX => ?_)
      replace hX : HH G A s.heap (wM G am (w_readTakes (w_readPlaces (w_readBound (w_spot (w_kept (w_all (S) (va_up (va_up (m_all S) ((123) + ((62) * (aPc (m_all S)))) (rp1)) (((123) + ((62) * (aPc (m_all S)))) + (1)) (bN bd1))) (kp31)) (sp1)) (bN bd1)) (rp1)) (rt1))) H locs := hX
      refine lv_iconst (v := nI (0)) hC.1 hC.2.1 dX8_addPattern_69 rfl ?_
      refine lv_istore_n (lv' := [(3, .int (nI (0))), (2, .int (nI ((123) + ((62) * (aPc (m_all S)))))), (1, .int ((-5))), (0, .ref (am 0))]) hC.1 hC.2.1 dX8_addPattern_70 rfl hl (by decide) rfl (fun ls hl => ?_)
      have loop71 : ∀ (n9 : Nat) (k : Nat) (f : Nat → Nat), (k ≤ rp1) → (newI (m_all S) f rp1 rt1 bd1 k) → rp1 - k < n9 → ∀ (H : Heap) (locs : List Loc) (ls : Array Slot), HH G A s.heap (wM G am (w_readTakes (w_readPlaces (w_readBound (w_spot (w_kept (w_all (S) (f)) (kp31)) (sp1)) (bN bd1)) (rp1)) (rt1))) H locs → lv_has ls 4 [(3, .int (nI (k))), (2, .int (nI ((123) + ((62) * (aPc (m_all S)))))), (1, .int ((-5))), (0, .ref (am 0))] → W p l e { frames := 6, cells := 0, slots := 0, locals := 133 } s m args below meth c H locs 0 0 (EndI G (wM G am) A (fun r S' => (∃ sp, r = (-100) - nI sp ∧ sp ≤ m_padLong S ∧ rdBad (m_pad S) R0 (m_padLong S) sp ∧ samM S S') ∨ ∃ rp rt bd, rdOK (m_pad S) R0 (m_padLong S) (m_padLong S) rp rt bd ∧ ((aPc (m_all S) = 6 ∧ r = -3 ∧ samM S S') ∨ (aPc (m_all S) < 6 ∧ r = nI (aPc (m_all S)) ∧ newA (m_all S) (m_all S') rp rt bd ∧ actM S S'))) below args s 0 0) (F0 m 71 ls []) := by
        intro n9
        induction n9 with
        | zero => intro k f hk hI hn9; exact absurd hn9 (Nat.not_lt_zero _)
        | succ n9 ih71 =>
          intro k f hk hI hn9 H locs ls hX hl
          refine lv_iload_n hC.1 hC.2.1 dX8_addPattern_71 rfl (lv_at hl 0 rfl) ?_
          refine lv_aload_n hC.1 hC.2.1 dX8_addPattern_72 rfl (lv_at hl 3 rfl) ?_
          refine g_m_readPlaces hC fi_X8_addPattern_X8 hK hX (wd9 hC 2 rfl) dX8_addPattern_73 (v := rp1) rfl ?_
          refine n_icmp_ge hC (a := k) (b := rp1) (tgt := 101) dX8_addPattern_76 (by decide) (by omega) (by omega) (fun c76 => ?_) (fun c76 => ?_)
          · skip
            refine lv_aload_n hC.1 hC.2.1 dX8_addPattern_101 rfl (lv_at hl 3 rfl) ?_
            refine g_m_all hC fi_X8_addPattern_X8 hK hX (wd9 hC 1 rfl) dX8_addPattern_102 ?_
            refine lv_iconst (v := nI (1)) hC.1 hC.2.1 dX8_addPattern_105 rfl ?_
            refine lv_dup2_11 hC.1 hC.2.1 dX8_addPattern_106 rfl rfl ?_
            refine l_m_all hC hK hX (i := 1) (by decide) dX8_addPattern_107 (v := aPc (m_all S)) (hI.2.2.2 1 (Or.inl (by omega))) ?_
            refine lv_iconst (v := nI (1)) hC.1 hC.2.1 dX8_addPattern_108 rfl ?_
            refine n_add hC (a := aPc (m_all S)) (b := 1) dX8_addPattern_109 ?_
            refine s_m_all hC hK hX (i := 1) (v := (aPc (m_all S)) + (1)) (by decide) dX8_addPattern_110 (fun H locs hX => ?_)
            replace hX : HH G A s.heap (wM G am (w_readTakes (w_readPlaces (w_readBound (w_spot (w_kept (w_all (S) (va_up (f) (1) ((aPc (m_all S)) + (1)))) (kp31)) (sp1)) (bN bd1)) (rp1)) (rt1))) H locs := hX
            refine lv_aload_n hC.1 hC.2.1 dX8_addPattern_111 rfl (lv_at hl 3 rfl) ?_
            refine lv_aload_n hC.1 hC.2.1 dX8_addPattern_112 rfl (lv_at hl 3 rfl) ?_
            refine g_m_all hC fi_X8_addPattern_X8 hK hX (wd9 hC 1 rfl) dX8_addPattern_113 ?_
            refine lv_iconst (v := nI (1)) hC.1 hC.2.1 dX8_addPattern_116 rfl ?_
            refine l_m_all hC hK hX (i := 1) (by decide) dX8_addPattern_117 (v := aPc (m_all S) + 1) (show va_up f 1 (aPc (m_all S) + 1) 1 = _ from va_up_self _ _ _) ?_
            refine lv_iconst (v := nI (1)) hC.1 hC.2.1 dX8_addPattern_118 rfl ?_
            refine n_sub hC (a := aPc (m_all S) + 1) (b := 1) dX8_addPattern_119 (by omega) ?_
            refine n_top (y := nI (aPc (m_all S))) (congrArg nI (Nat.add_sub_cancel _ _)) ?_
            refine cv_I (As := [.int (nI (aPc (m_all S)))]) (rest := []) hC hK hA hX (c_X8_acted l G am (w_readTakes (w_readPlaces (w_readBound (w_spot (w_kept (w_all (S) (va_up (f) (1) ((aPc (m_all S)) + (1)))) (kp31)) (sp1)) (bN bd1)) (rp1)) (rt1)) hhl (nI (aPc (m_all S)))) (cwV 1 hC.2.2.2.2 gX8_addPattern_X8_acted rfl rfl rfl hd_X8_acted ⟨Nat.le_of_ble_eq_true rfl, Nat.le_of_ble_eq_true rfl⟩) (ci := 8) (q := (RX8, TX8, 21)) rfl (q0 := 0) rfl dX8_addPattern_120 rfl hl.1 rfl (Nat.le_of_ble_eq_true rfl) ⟨(Nat.zero_le _), (Nat.zero_le _)⟩ (fun r9 S9 H locs hp9 hX => ?_)
            obtain ⟨h9, hh120, hS9, hrec120⟩ := hp9
            rw [hS9] at hX
            obtain rfl : r9 = _ := h9
            replace hX : HH G A s.heap (wM G am (w_readTakes (w_readPlaces (w_readBound (w_spot (w_hlong (w_hist (w_kept (w_all (S) (va_up (f) (1) ((aPc (m_all S)) + (1)))) (kp31)) (hh120)) (mHl (w_readTakes (w_readPlaces (w_readBound (w_spot (w_kept (w_all (S) (va_up (f) (1) ((aPc (m_all S)) + (1)))) (kp31)) (sp1)) (bN bd1)) (rp1)) (rt1)) + 1)) (sp1)) (bN bd1)) (rp1)) (rt1))) H locs := hX
            refine r_ireturn hC hr hlk hX dX8_addPattern_123 ?_
            obtain rfl : k = rp1 := by omega
            exact Or.inr ⟨_, rt1, bd1, hOK1, Or.inr ⟨by omega, rfl, newA_of hI, act_of hrec120 rfl rfl hkp31 rfl rfl rfl rfl⟩⟩
          · skip
            refine lv_aload_n hC.1 hC.2.1 dX8_addPattern_79 rfl (lv_at hl 3 rfl) ?_
            refine g_m_all hC fi_X8_addPattern_X8 hK hX (wd9 hC 1 rfl) dX8_addPattern_80 ?_
            refine lv_iload_n hC.1 hC.2.1 dX8_addPattern_83 rfl (lv_at hl 1 rfl) ?_
            refine lv_iconst (v := nI (2)) hC.1 hC.2.1 dX8_addPattern_84 rfl ?_
            refine n_add hC (a := (123) + ((62) * (aPc (m_all S)))) (b := 2) dX8_addPattern_85 ?_
            refine lv_iload_n hC.1 hC.2.1 dX8_addPattern_86 rfl (lv_at hl 0 rfl) ?_
            refine n_add hC (a := ((123) + ((62) * (aPc (m_all S)))) + (2)) (b := k) dX8_addPattern_87 ?_
            refine lv_aload_n hC.1 hC.2.1 dX8_addPattern_88 rfl (lv_at hl 3 rfl) ?_
            refine g_m_readTakes hC fi_X8_addPattern_X8 hK hX (wd9 hC 4 rfl) dX8_addPattern_89 ?_
            refine lv_iload_n hC.1 hC.2.1 dX8_addPattern_92 rfl (lv_at hl 0 rfl) ?_
            refine l_m_readTakes hC hK hX (i := k) (by omega) dX8_addPattern_93 (v := rt1 k) rfl ?_
            refine s_m_all hC hK hX (i := (((123) + ((62) * (aPc (m_all S)))) + (2)) + (k)) (v := rt1 k) (by omega) dX8_addPattern_94 (fun H locs hX => ?_)
            replace hX : HH G A s.heap (wM G am (w_readTakes (w_readPlaces (w_readBound (w_spot (w_kept (w_all (S) (va_up (f) ((((123) + ((62) * (aPc (m_all S)))) + (2)) + (k)) (rt1 k))) (kp31)) (sp1)) (bN bd1)) (rp1)) (rt1))) H locs := hX
            refine lv_iinc (v := nI (k + 1)) (lv' := [(3, .int (nI (k + 1))), (2, .int (nI ((123) + ((62) * (aPc (m_all S)))))), (1, .int ((-5))), (0, .ref (am 0))]) hC.1 hC.2.1 dX8_addPattern_95 hl (k := 0) rfl (n_inc1 _) (by decide) rfl (fun ls hl => ?_)
            refine lv_goto (tgt := 71) hC.1 hC.2.1 dX8_addPattern_98 (by decide) ?_
            refine ih71 (k + 1) (va_up f (125 + 62 * aPc (m_all S) + k) (rt1 k)) ?_ ?_ ?_ _ _ ls (by rw [show 125 + 62 * aPc (m_all S) + k = 123 + 62 * aPc (m_all S) + 2 + k by omega]; exact hX) (lv_sub hl [0, 1, 2, 3] rfl)
            · omega
            · exact newI_s hI
            · omega
      refine loop71 _ (0) (va_up (va_up (m_all S) ((123) + ((62) * (aPc (m_all S)))) (rp1)) (((123) + ((62) * (aPc (m_all S)))) + (1)) (bN bd1)) ?_ ?_ (Nat.lt_succ_self _) _ _ ls hX (lv_sub hl [0, 1, 2, 3] rfl)
      · omega
      · exact newI_0 _ _ _ _
    · skip
      refine lv_bipush (v := (-3)) hC.1 hC.2.1 dX8_addPattern_27 (by decide +kernel) ?_
      refine r_ireturn hC hr hlk hX dX8_addPattern_29 ?_
      exact Or.inr ⟨rp1, rt1, bd1, hOK1, Or.inl ⟨by omega, rfl, ⟨rfl, rfl, rfl, rfl, rfl, rfl, rfl⟩⟩⟩
  · skip
    refine lv_istore_n (lv' := [(1, .int (nI (sp1))), (0, .ref (am 0))]) hC.1 hC.2.1 dX8_addPattern_4 rfl hl (by decide) rfl (fun ls hl => ?_)
    refine lv_iload_n hC.1 hC.2.1 dX8_addPattern_5 rfl (lv_at hl 0 rfl) ?_
    refine lv_bipush (v := (-5)) hC.1 hC.2.1 dX8_addPattern_6 (by decide +kernel) ?_
    refine lv_icmp_eq hC.1 hC.2.1 (x := nI (sp1)) (y := (-5)) (tgt := 16) dX8_addPattern_8 (by decide) (fun c8 => absurd c8 (nI_ne_neg (by omega) (by decide))) (fun c8 => ?_)
    refine lv_bipush (v := (-100)) hC.1 hC.2.1 dX8_addPattern_11 (by decide +kernel) ?_
    refine lv_iload_n hC.1 hC.2.1 dX8_addPattern_13 rfl (lv_at hl 0 rfl) ?_
    refine lv_isub hC.1 hC.2.1 dX8_addPattern_14 ?_
    refine r_ireturn hC hr hlk hX dX8_addPattern_15 ?_
    exact Or.inl ⟨sp1, rfl, hsp1, hBad1, ⟨rfl, rfl, rfl, rfl, rfl, rfl, rfl⟩⟩
theorem fi_X8_removePattern_X8 : ∀ w ∈ wsX80, w ∈ wsX8_removePattern := by decide +kernel
set_option maxHeartbeats 4000000 in
set_option maxRecDepth 100000 in
theorem c_X8_removePattern (l : Launch) (G : GX) (am : Nat → Nat) (S : MS) (hok : okM S) (p0 : Int32) : CtI l yX8_removePattern wsX8_removePattern { frames := 2, cells := 0, slots := 0, locals := 46 } G (wM G am) (S) [.ref (am 0), .int (p0)] (fun r S' => (isPm (m_all S) p0 = false ∧ r = -1 ∧ S' = S) ∨ ∃ j, p0 = nI j ∧ j < aPc (m_all S) ∧ r = nI (aPc (m_all S) - 1) ∧ remI (m_all S) (m_all S') j (62 * (aPc (m_all S) - 1)) ∧ actM S S') 0 0 := by
  refine CtI.of (cc := cX8_removePattern) (maxL := 3) (ret := some .int) (by decide +kernel) rfl (Nat.le_of_ble_eq_true rfl) ?_
  intro p e s m args below meth c ls A hC hr hlk hin hK hA hX hl
  have hl : lv_has ls 3 [(0, .ref (am 0)), (1, .int (p0))] := hl
  have hokM := hok
  obtain ⟨hokk, hhl, hhs, hsn, hit, hpl0, hpd0⟩ := hok
  obtain ⟨hLn, hPc, hMs, hTx, hPt⟩ := id hokk
  refine lv_aload_n hC.1 hC.2.1 dX8_removePattern_0 rfl (lv_at hl 0 rfl) ?_
  refine lv_iload_n hC.1 hC.2.1 dX8_removePattern_1 rfl (lv_at hl 1 rfl) ?_
  refine cv_I (As := [.int (p0)]) (rest := []) hC hK hA hX (c_X8_isPattern l G am (S) hokk (p0)) (cwV 1 hC.2.2.2.2 gX8_removePattern_X8_isPattern rfl rfl rfl hd_X8_isPattern ⟨Nat.le_of_ble_eq_true rfl, Nat.le_of_ble_eq_true rfl⟩) (ci := 8) (q := (RX8, TX8, 21)) rfl (q0 := 0) rfl dX8_removePattern_2 rfl hl.1 rfl (Nat.le_of_ble_eq_true rfl) ⟨(Nat.zero_le _), (Nat.zero_le _)⟩ (fun r9 S9 H locs hp9 hX => ?_)
  obtain ⟨rfl, hS9⟩ := hp9
  rw [hS9] at hX
  replace hX : HH G A s.heap (wM G am (S)) H locs := hX
  refine b_if_ne hC (b := isPm (m_all S) (p0)) (tgt := 10) dX8_removePattern_5 (by decide) (fun c5 => ?_) (fun c5 => ?_)
  · skip
    obtain ⟨pj, hpj, rfl⟩ := isPm_t c5
    have hp0 : pj < 6 := by omega
    obtain ⟨hpl, hbd, htk⟩ := hPt pj hp0
    refine lv_aload_n hC.1 hC.2.1 dX8_removePattern_10 rfl (lv_at hl 0 rfl) ?_
    refine cv_V (As := []) (rest := []) hC hK hA hX (c_X8_remember l G am (S) ) (cwV 0 hC.2.2.2.2 gX8_removePattern_X8_remember rfl rfl rfl hd_X8_remember ⟨Nat.le_of_ble_eq_true rfl, Nat.le_of_ble_eq_true rfl⟩) (ci := 8) (q := (RX8, TX8, 21)) rfl (q0 := 0) rfl dX8_removePattern_11 rfl hl.1 rfl (Nat.le_of_ble_eq_true rfl) ⟨(Nat.zero_le _), (Nat.zero_le _)⟩ (fun S9 H locs hp9 hX => ?_)
    obtain ⟨kp11, hS9, hkp11⟩ := hp9
    rw [hS9] at hX
    replace hX : HH G A s.heap (wM G am (w_kept (S) (kp11))) H locs := hX
    refine lv_aload_n hC.1 hC.2.1 dX8_removePattern_14 rfl (lv_at hl 0 rfl) ?_
    refine g_m_all hC fi_X8_removePattern_X8 hK hX (wd9 hC 1 rfl) dX8_removePattern_15 ?_
    refine lv_iconst (v := nI (1)) hC.1 hC.2.1 dX8_removePattern_18 rfl ?_
    refine lv_dup2_11 hC.1 hC.2.1 dX8_removePattern_19 rfl rfl ?_
    refine l_m_all hC hK hX (i := 1) (by decide) dX8_removePattern_20 (v := aPc (m_all S)) rfl ?_
    refine lv_iconst (v := nI (1)) hC.1 hC.2.1 dX8_removePattern_21 rfl ?_
    refine n_sub hC (a := aPc (m_all S)) (b := 1) dX8_removePattern_22 (by omega) ?_
    refine s_m_all hC hK hX (i := 1) (v := (aPc (m_all S)) - (1)) (by decide) dX8_removePattern_23 (fun H locs hX => ?_)
    replace hX : HH G A s.heap (wM G am (w_kept (w_all (S) (va_up (m_all S) (1) ((aPc (m_all S)) - (1)))) (kp11))) H locs := hX
    refine lv_bipush (v := nI (62)) hC.1 hC.2.1 dX8_removePattern_24 (by decide +kernel) ?_
    refine lv_iload_n hC.1 hC.2.1 dX8_removePattern_26 rfl (lv_at hl 1 rfl) ?_
    refine n_mul hC (a := 62) (b := pj) dX8_removePattern_27 ?_
    refine lv_istore_n (lv' := [(2, .int (nI (62 * pj))), (0, .ref (am 0)), (1, .int (nI (pj)))]) hC.1 hC.2.1 dX8_removePattern_28 rfl hl (by decide) rfl (fun ls hl => ?_)
    have loop29 : ∀ (n9 : Nat) (k : Nat) (f : Nat → Nat), (k ≤ 62 * (aPc (m_all S) - 1)) → (62 * pj ≤ k) → (remI (m_all S) f pj k) → 62 * (aPc (m_all S) - 1) - k < n9 → ∀ (H : Heap) (locs : List Loc) (ls : Array Slot), HH G A s.heap (wM G am (w_kept (w_all (S) (f)) (kp11))) H locs → lv_has ls 3 [(2, .int (nI (k))), (0, .ref (am 0)), (1, .int (nI (pj)))] → W p l e { frames := 2, cells := 0, slots := 0, locals := 46 } s m args below meth c H locs 0 0 (EndI G (wM G am) A (fun r S' => (isPm (m_all S) (nI (pj)) = false ∧ r = -1 ∧ S' = S) ∨ ∃ j, (nI (pj)) = nI j ∧ j < aPc (m_all S) ∧ r = nI (aPc (m_all S) - 1) ∧ remI (m_all S) (m_all S') j (62 * (aPc (m_all S) - 1)) ∧ actM S S') below args s 0 0) (F0 m 29 ls []) := by
      intro n9
      induction n9 with
      | zero => intro k f hk hk2 hI hn9; exact absurd hn9 (Nat.not_lt_zero _)
      | succ n9 ih29 =>
        intro k f hk hk2 hI hn9 H locs ls hX hl
        refine lv_iload_n hC.1 hC.2.1 dX8_removePattern_29 rfl (lv_at hl 0 rfl) ?_
        refine lv_bipush (v := nI (62)) hC.1 hC.2.1 dX8_removePattern_30 (by decide +kernel) ?_
        refine lv_aload_n hC.1 hC.2.1 dX8_removePattern_32 rfl (lv_at hl 1 rfl) ?_
        refine g_m_all hC fi_X8_removePattern_X8 hK hX (wd9 hC 1 rfl) dX8_removePattern_33 ?_
        refine lv_iconst (v := nI (1)) hC.1 hC.2.1 dX8_removePattern_36 rfl ?_
        refine l_m_all hC hK hX (i := 1) (by decide) dX8_removePattern_37 (v := aPc (m_all S) - 1) (hI.2.1) ?_
        refine n_mul hC (a := 62) (b := aPc (m_all S) - 1) dX8_removePattern_38 ?_
        refine n_icmp_ge hC (a := k) (b := (62) * (aPc (m_all S) - 1)) (tgt := 69) dX8_removePattern_39 (by decide) (by omega) (by omega) (fun c39 => ?_) (fun c39 => ?_)
        · skip
          refine lv_aload_n hC.1 hC.2.1 dX8_removePattern_69 rfl (lv_at hl 1 rfl) ?_
          refine lv_aload_n hC.1 hC.2.1 dX8_removePattern_70 rfl (lv_at hl 1 rfl) ?_
          refine g_m_all hC fi_X8_removePattern_X8 hK hX (wd9 hC 1 rfl) dX8_removePattern_71 ?_
          refine lv_iconst (v := nI (1)) hC.1 hC.2.1 dX8_removePattern_74 rfl ?_
          refine l_m_all hC hK hX (i := 1) (by decide) dX8_removePattern_75 (v := aPc (m_all S) - 1) (hI.2.1) ?_
          refine cv_I (As := [.int (nI (aPc (m_all S) - 1))]) (rest := []) hC hK hA hX (c_X8_acted l G am (w_kept (w_all (S) (f)) (kp11)) hhl (nI (aPc (m_all S) - 1))) (cwV 1 hC.2.2.2.2 gX8_removePattern_X8_acted rfl rfl rfl hd_X8_acted ⟨Nat.le_of_ble_eq_true rfl, Nat.le_of_ble_eq_true rfl⟩) (ci := 8) (q := (RX8, TX8, 21)) rfl (q0 := 0) rfl dX8_removePattern_76 rfl hl.1 rfl (Nat.le_of_ble_eq_true rfl) ⟨(Nat.zero_le _), (Nat.zero_le _)⟩ (fun r9 S9 H locs hp9 hX => ?_)
          obtain ⟨h9, hh76, hS9, hrec76⟩ := hp9
          rw [hS9] at hX
          obtain rfl : r9 = _ := h9
          replace hX : HH G A s.heap (wM G am (w_hlong (w_hist (w_kept (w_all (S) (f)) (kp11)) (hh76)) (mHl (w_kept (w_all (S) (f)) (kp11)) + 1))) H locs := hX
          refine r_ireturn hC hr hlk hX dX8_removePattern_79 ?_
          obtain rfl : k = 62 * (aPc (m_all S) - 1) := by omega
          exact Or.inr ⟨pj, rfl, hpj, rfl, hI, act_of hrec76 rfl rfl hkp11 rfl rfl rfl rfl⟩
        · skip
          refine lv_aload_n hC.1 hC.2.1 dX8_removePattern_42 rfl (lv_at hl 1 rfl) ?_
          refine g_m_all hC fi_X8_removePattern_X8 hK hX (wd9 hC 1 rfl) dX8_removePattern_43 ?_
          refine lv_bipush (v := nI (123)) hC.1 hC.2.1 dX8_removePattern_46 (by decide +kernel) ?_
          refine lv_iload_n hC.1 hC.2.1 dX8_removePattern_48 rfl (lv_at hl 0 rfl) ?_
          refine n_add hC (a := 123) (b := k) dX8_removePattern_49 ?_
          refine lv_aload_n hC.1 hC.2.1 dX8_removePattern_50 rfl (lv_at hl 1 rfl) ?_
          refine g_m_all hC fi_X8_removePattern_X8 hK hX (wd9 hC 1 rfl) dX8_removePattern_51 ?_
          refine lv_bipush (v := nI (123)) hC.1 hC.2.1 dX8_removePattern_54 (by decide +kernel) ?_
          refine lv_iload_n hC.1 hC.2.1 dX8_removePattern_56 rfl (lv_at hl 0 rfl) ?_
          refine n_add hC (a := 123) (b := k) dX8_removePattern_57 ?_
          refine lv_bipush (v := nI (62)) hC.1 hC.2.1 dX8_removePattern_58 (by decide +kernel) ?_
          refine n_add hC (a := 123 + k) (b := 62) dX8_removePattern_60 ?_
          refine l_m_all hC hK hX (i := (123 + k) + (62)) (by omega) dX8_removePattern_61 (v := m_all S (123 + k + 62)) (hI.2.2 _ (by omega) (Or.inr (by omega))) ?_
          refine s_m_all hC hK hX (i := 123 + k) (v := m_all S (123 + k + 62)) (by omega) dX8_removePattern_62 (fun H locs hX => ?_)
          replace hX : HH G A s.heap (wM G am (w_kept (w_all (S) (va_up (f) (123 + k) (m_all S (123 + k + 62)))) (kp11))) H locs := hX
          refine lv_iinc (v := nI (k + 1)) (lv' := [(2, .int (nI (k + 1))), (0, .ref (am 0)), (1, .int (nI (pj)))]) hC.1 hC.2.1 dX8_removePattern_63 hl (k := 0) rfl (n_inc1 _) (by decide) rfl (fun ls hl => ?_)
          refine lv_goto (tgt := 29) hC.1 hC.2.1 dX8_removePattern_66 (by decide) ?_
          refine ih29 (k + 1) (va_up (f) (123 + k) (m_all S (123 + k + 62))) ?_ ?_ ?_ ?_ _ _ ls hX (lv_sub hl [0, 1, 2] rfl)
          · omega
          · omega
          · exact remI_s hI hk2
          · omega
    refine loop29 _ (62 * pj) (va_up (m_all S) (1) ((aPc (m_all S)) - (1))) ?_ ?_ ?_ (Nat.lt_succ_self _) _ _ ls hX (lv_sub hl [0, 1, 2] rfl)
    · omega
    · exact Nat.le_refl _
    · exact remI_0 _ _
  · skip
    refine lv_iconst (v := (-1)) hC.1 hC.2.1 dX8_removePattern_8 rfl ?_
    refine r_ireturn hC hr hlk hX dX8_removePattern_9 ?_
    exact Or.inl ⟨c5, rfl, rfl⟩
theorem fi_X8_replace_X8 : ∀ w ∈ wsX80, w ∈ wsX8_replace := by decide +kernel
set_option maxHeartbeats 4000000 in
set_option maxRecDepth 100000 in
theorem c_X8_replace (l : Launch) (G : GX) (am : Nat → Nat) (S : MS) (hok : okM S) (p0 : Int32) (c0 : Nat) (hc0 : c0 < 65536) : CtI l yX8_replace wsX8_replace { frames := 4, cells := 0, slots := 0, locals := 94 } G (wM G am) (S) [.ref (am 0), .int (p0), .int (nI (c0))] (fun r S' => (isPm (m_all S) p0 = false ∧ r = -1 ∧ S' = S) ∨ ∃ j, p0 = nI j ∧ j < aPc (m_all S) ∧ ((isLet c0 = false ∧ r = -2 ∧ S' = S) ∨ (isLet c0 = true ∧ ∃ ef, LR ef (selAM (m_all S) j true) (aLen (m_all S) + 1) ∧ ((cS (selAM (m_all S) j true) (aLen (m_all S) + 1) = 0 ∧ r = -5 ∧ samM S S') ∨ (0 < cS (selAM (m_all S) j true) (aLen (m_all S) + 1) ∧ 120 < aLen (m_all S) + cS (selAM (m_all S) j true) (aLen (m_all S) + 1) - pS (bM (m_all S) j) ef (cS (selAM (m_all S) j true) (aLen (m_all S) + 1)) ∧ r = -3 ∧ samM S S') ∨ (0 < cS (selAM (m_all S) j true) (aLen (m_all S) + 1) ∧ aLen (m_all S) + cS (selAM (m_all S) j true) (aLen (m_all S) + 1) - pS (bM (m_all S) j) ef (cS (selAM (m_all S) j true) (aLen (m_all S) + 1)) ≤ 120 ∧ r = nI (cS (selAM (m_all S) j true) (aLen (m_all S) + 1)) ∧ repA (m_all S) (m_all S') (c0 - 97) (bM (m_all S) j) ef (aLen (m_all S)) (cS (selAM (m_all S) j true) (aLen (m_all S) + 1)) ∧ actM S S'))))) 0 0 := by
  refine CtI.of (cc := cX8_replace) (maxL := 7) (ret := some .int) (by decide +kernel) rfl (Nat.le_of_ble_eq_true rfl) ?_
  intro p e s m args below meth c ls A hC hr hlk hin hK hA hX hl
  have hl : lv_has ls 7 [(0, .ref (am 0)), (1, .int (p0)), (2, .int (nI (c0)))] := hl
  have hokM := hok
  obtain ⟨hokk, hhl, hhs, hsn, hit, hpl0, hpd0⟩ := hok
  obtain ⟨hLn, hPc, hMs, hTx, hPt⟩ := id hokk
  refine lv_aload_n hC.1 hC.2.1 dX8_replace_0 rfl (lv_at hl 0 rfl) ?_
  refine lv_iload_n hC.1 hC.2.1 dX8_replace_1 rfl (lv_at hl 1 rfl) ?_
  refine cv_I (As := [.int (p0)]) (rest := []) hC hK hA hX (c_X8_isPattern l G am (S) hokk (p0)) (cwV 1 hC.2.2.2.2 gX8_replace_X8_isPattern rfl rfl rfl hd_X8_isPattern ⟨Nat.le_of_ble_eq_true rfl, Nat.le_of_ble_eq_true rfl⟩) (ci := 8) (q := (RX8, TX8, 21)) rfl (q0 := 0) rfl dX8_replace_2 rfl hl.1 rfl (Nat.le_of_ble_eq_true rfl) ⟨(Nat.zero_le _), (Nat.zero_le _)⟩ (fun r9 S9 H locs hp9 hX => ?_)
  obtain ⟨rfl, hS9⟩ := hp9
  rw [hS9] at hX
  replace hX : HH G A s.heap (wM G am (S)) H locs := hX
  refine b_if_ne hC (b := isPm (m_all S) (p0)) (tgt := 10) dX8_replace_5 (by decide) (fun c5 => ?_) (fun c5 => ?_)
  · skip
    obtain ⟨pj, hpj, rfl⟩ := isPm_t c5
    have hp0 : pj < 6 := by omega
    obtain ⟨hpl, hbd, htk⟩ := hPt pj hp0
    refine lv_iload_n hC.1 hC.2.1 dX8_replace_10 rfl (lv_at hl 2 rfl) ?_
    refine lv_i2l (v := lN (c0)) hC.1 hC.2.1 dX8_replace_11 (nI_l (by omega)) ?_
    refine lv_ldc2 (v := (97 : Int64)) hC.1 hC.2.1 hC.2.2.2.1 (wd9 hC 1 rfl) dX8_replace_12 ?_
    refine lv_ldc2 (v := (122 : Int64)) hC.1 hC.2.1 hC.2.2.2.1 (wd9 hC 2 rfl) dX8_replace_15 ?_
    refine ps_I (As := [.long (lN (c0)), .long ((97 : Int64)), .long ((122 : Int64))]) (rest := []) hC hK hA hX (c_X8_in l G (lN (c0)) ((97 : Int64)) ((122 : Int64))) (va_cwS 3 hC.2.2.2.2 gX8_replace_X8_in rfl rfl rfl hd_X8_in_s ⟨Nat.le_of_ble_eq_true rfl, Nat.le_of_ble_eq_true rfl⟩) dX8_replace_18 rfl hl.1 rfl (Nat.le_of_ble_eq_true rfl) ⟨(Nat.zero_le _), (Nat.zero_le _)⟩ (fun r9 S9 H locs hp9 hX => ?_)
    obtain rfl : r9 = bI (isLet c0) := by rw [hp9, (show inL (lN c0) (97 : Int64) (122 : Int64) = isLet c0 from inL_n (c := 122) (b := 97) (by omega) (by decide) (by decide))]
    replace hX : HH G A s.heap (wM G am (S)) H locs := hX
    refine b_if_ne hC (b := isLet c0) (tgt := 27) dX8_replace_21 (by decide) (fun c21 => ?_) (fun c21 => ?_)
    · skip
      have hlc := isLet_ge c21
      refine lv_aload_n hC.1 hC.2.1 dX8_replace_27 rfl (lv_at hl 0 rfl) ?_
      refine lv_iload_n hC.1 hC.2.1 dX8_replace_28 rfl (lv_at hl 1 rfl) ?_
      refine lv_iconst (v := nI (1)) hC.1 hC.2.1 dX8_replace_29 rfl ?_
      refine cv_V (As := [.int (nI (pj)), .int (nI (1))]) (rest := []) hC hK hA hX (c_X8_findsEnds l G am (S) hokk (pj) hp0 true) (cwV 2 hC.2.2.2.2 gX8_replace_X8_findsEnds rfl rfl rfl hd_X8_findsEnds ⟨Nat.le_of_ble_eq_true rfl, Nat.le_of_ble_eq_true rfl⟩) (ci := 8) (q := (RX8, TX8, 21)) rfl (q0 := 0) rfl dX8_replace_30 rfl hl.1 rfl (Nat.le_of_ble_eq_true rfl) ⟨(Nat.zero_le _), (Nat.zero_le _)⟩ (fun S9 H locs hp9 hX => ?_)
      obtain ⟨fw30, bg30, ef30, hS9, hLR30, hck30⟩ := hp9
      rw [hS9] at hX
      replace hX : HH G A s.heap (wM G am (w_nends (w_endAt (w_begin (w_fewest (S) (fw30)) (bg30)) (ef30)) (cS (selAM (m_all S) (pj) true) (aLen (m_all S) + 1)))) H locs := hX
      replace hLR30 : LR ef30 (selAM (m_all S) (pj) true) (aLen (m_all S) + 1) := hLR30
      replace hck30 : ∀ ee, ee ≤ aLen (m_all S) → cellK fw30 bg30 (121 * aPl (m_all S) (pj) + ee) (kM (m_all S) (pj) ee) := hck30
      have hcl30 := cS_le (selAM (m_all S) (pj) true) (aLen (m_all S) + 1)
      have hes30 : ∀ r, r < cS (selAM (m_all S) (pj) true) (aLen (m_all S) + 1) → ef30 r < aLen (m_all S) + 1 ∧ dM (m_all S) (pj) (ef30 r) = gM (m_all S) (pj) ef30 r := fun r hr => gM_eq hMs hLR30 hr
      have hbm : ∀ e9, e9 < aLen (m_all S) + 1 → bM (m_all S) pj e9 ≤ e9 := fun e9 h => bcol_le (by omega)
      have hpk : partsOK (bM (m_all S) pj) ef30 (cS (selAM (m_all S) pj true) (aLen (m_all S) + 1)) (aLen (m_all S)) := al_parts hLR30 hbm
      refine lv_aload_n hC.1 hC.2.1 dX8_replace_33 rfl (lv_at hl 0 rfl) ?_
      refine g_m_nends hC fi_X8_replace_X8 hK hX (wd9 hC 3 rfl) dX8_replace_34 (v := cS (selAM (m_all S) (pj) true) (aLen (m_all S) + 1)) rfl ?_
      refine n_if_ne hC (a := cS (selAM (m_all S) (pj) true) (aLen (m_all S) + 1)) (tgt := 43) dX8_replace_37 (by decide) (by omega) (fun c37 => ?_) (fun c37 => ?_)
      · skip
        refine lv_aload_n hC.1 hC.2.1 dX8_replace_43 rfl (lv_at hl 0 rfl) ?_
        refine g_m_all hC fi_X8_replace_X8 hK hX (wd9 hC 4 rfl) dX8_replace_44 ?_
        refine lv_iconst (v := nI (0)) hC.1 hC.2.1 dX8_replace_47 rfl ?_
        refine l_m_all hC hK hX (i := 0) (by decide) dX8_replace_48 (v := (m_all S) 0) rfl ?_
        refine lv_istore_n (lv' := [(3, .int (nI ((m_all S) 0))), (0, .ref (am 0)), (1, .int (nI (pj))), (2, .int (nI (c0)))]) hC.1 hC.2.1 dX8_replace_49 rfl hl (by decide) rfl (fun ls hl => ?_)
        refine lv_iconst (v := nI (0)) hC.1 hC.2.1 dX8_replace_50 rfl ?_
        refine lv_istore (lv' := [(4, .int (nI (0))), (3, .int (nI ((m_all S) 0))), (0, .ref (am 0)), (1, .int (nI (pj))), (2, .int (nI (c0)))]) hC.1 hC.2.1 dX8_replace_51 hl (by decide) rfl (fun ls hl => ?_)
        have loop53 : ∀ (n9 : Nat) (i : Nat), (i ≤ cS (selAM (m_all S) pj true) (aLen (m_all S) + 1)) → cS (selAM (m_all S) pj true) (aLen (m_all S) + 1) - i < n9 → ∀ (H : Heap) (locs : List Loc) (ls : Array Slot), HH G A s.heap (wM G am (w_nends (w_endAt (w_begin (w_fewest (S) (fw30)) (bg30)) (ef30)) (cS (selAM (m_all S) (pj) true) (aLen (m_all S) + 1)))) H locs → lv_has ls 7 [(4, .int (nI (i))), (3, .int (nI (aLen (m_all S) + i - pS (bM (m_all S) pj) ef30 i))), (0, .ref (am 0)), (1, .int (nI (pj))), (2, .int (nI (c0)))] → W p l e { frames := 4, cells := 0, slots := 0, locals := 94 } s m args below meth c H locs 0 0 (EndI G (wM G am) A (fun r S' => (isPm (m_all S) (nI (pj)) = false ∧ r = -1 ∧ S' = S) ∨ ∃ j, (nI (pj)) = nI j ∧ j < aPc (m_all S) ∧ ((isLet c0 = false ∧ r = -2 ∧ S' = S) ∨ (isLet c0 = true ∧ ∃ ef, LR ef (selAM (m_all S) j true) (aLen (m_all S) + 1) ∧ ((cS (selAM (m_all S) j true) (aLen (m_all S) + 1) = 0 ∧ r = -5 ∧ samM S S') ∨ (0 < cS (selAM (m_all S) j true) (aLen (m_all S) + 1) ∧ 120 < aLen (m_all S) + cS (selAM (m_all S) j true) (aLen (m_all S) + 1) - pS (bM (m_all S) j) ef (cS (selAM (m_all S) j true) (aLen (m_all S) + 1)) ∧ r = -3 ∧ samM S S') ∨ (0 < cS (selAM (m_all S) j true) (aLen (m_all S) + 1) ∧ aLen (m_all S) + cS (selAM (m_all S) j true) (aLen (m_all S) + 1) - pS (bM (m_all S) j) ef (cS (selAM (m_all S) j true) (aLen (m_all S) + 1)) ≤ 120 ∧ r = nI (cS (selAM (m_all S) j true) (aLen (m_all S) + 1)) ∧ repA (m_all S) (m_all S') (c0 - 97) (bM (m_all S) j) ef (aLen (m_all S)) (cS (selAM (m_all S) j true) (aLen (m_all S) + 1)) ∧ actM S S'))))) below args s 0 0) (F0 m 53 ls []) := by
          intro n9
          induction n9 with
          | zero => intro i hi hn9; exact absurd hn9 (Nat.not_lt_zero _)
          | succ n9 ih53 =>
            intro i hi hn9 H locs ls hX hl
            refine lv_iload hC.1 hC.2.1 dX8_replace_53 (lv_at hl 0 rfl) ?_
            refine lv_aload_n hC.1 hC.2.1 dX8_replace_55 rfl (lv_at hl 2 rfl) ?_
            refine g_m_nends hC fi_X8_replace_X8 hK hX (wd9 hC 3 rfl) dX8_replace_56 (v := cS (selAM (m_all S) (pj) true) (aLen (m_all S) + 1)) rfl ?_
            refine n_icmp_ge hC (a := i) (b := cS (selAM (m_all S) (pj) true) (aLen (m_all S) + 1)) (tgt := 88) dX8_replace_59 (by decide) (by omega) (by omega) (fun c59 => ?_) (fun c59 => ?_)
            · skip
              obtain rfl : i = cS (selAM (m_all S) pj true) (aLen (m_all S) + 1) := by omega
              refine lv_iload_n hC.1 hC.2.1 dX8_replace_88 rfl (lv_at hl 1 rfl) ?_
              refine lv_bipush (v := nI (120)) hC.1 hC.2.1 dX8_replace_89 (by decide +kernel) ?_
              refine n_icmp_le hC (a := aLen (m_all S) + (cS (selAM (m_all S) pj true) (aLen (m_all S) + 1)) - pS (bM (m_all S) pj) ef30 (cS (selAM (m_all S) pj true) (aLen (m_all S) + 1))) (b := 120) (tgt := 97) dX8_replace_91 (by decide) (by omega) (by decide) (fun c91 => ?_) (fun c91 => ?_)
              · skip
                refine lv_aload_n hC.1 hC.2.1 dX8_replace_97 rfl (lv_at hl 2 rfl) ?_
                refine cv_V (As := []) (rest := []) hC hK hA hX (c_X8_remember l G am (w_nends (w_endAt (w_begin (w_fewest (S) (fw30)) (bg30)) (ef30)) (cS (selAM (m_all S) (pj) true) (aLen (m_all S) + 1))) ) (cwV 0 hC.2.2.2.2 gX8_replace_X8_remember rfl rfl rfl hd_X8_remember ⟨Nat.le_of_ble_eq_true rfl, Nat.le_of_ble_eq_true rfl⟩) (ci := 8) (q := (RX8, TX8, 21)) rfl (q0 := 0) rfl dX8_replace_98 rfl hl.1 rfl (Nat.le_of_ble_eq_true rfl) ⟨(Nat.zero_le _), (Nat.zero_le _)⟩ (fun S9 H locs hp9 hX => ?_)
                obtain ⟨kp98, hS9, hkp98⟩ := hp9
                rw [hS9] at hX
                replace hX : HH G A s.heap (wM G am (w_nends (w_endAt (w_begin (w_fewest (w_kept (S) (kp98)) (fw30)) (bg30)) (ef30)) (cS (selAM (m_all S) (pj) true) (aLen (m_all S) + 1)))) H locs := hX
                refine lv_aload_n hC.1 hC.2.1 dX8_replace_101 rfl (lv_at hl 2 rfl) ?_
                refine g_m_all hC fi_X8_replace_X8 hK hX (wd9 hC 4 rfl) dX8_replace_102 ?_
                refine lv_iconst (v := nI (0)) hC.1 hC.2.1 dX8_replace_105 rfl ?_
                refine lv_iconst (v := nI (0)) hC.1 hC.2.1 dX8_replace_106 rfl ?_
                refine s_m_all hC hK hX (i := 0) (v := 0) (by decide) dX8_replace_107 (fun H locs hX => ?_)
                replace hX : HH G A s.heap (wM G am (w_nends (w_endAt (w_begin (w_fewest (w_kept (w_all (S) (va_up (m_all S) (0) (0))) (kp98)) (fw30)) (bg30)) (ef30)) (cS (selAM (m_all S) (pj) true) (aLen (m_all S) + 1)))) H locs := hX
                refine lv_iconst (v := nI (0)) hC.1 hC.2.1 dX8_replace_108 rfl ?_
                refine lv_istore (lv' := [(4, .int (nI (0))), (3, .int (nI (aLen (m_all S) + (cS (selAM (m_all S) pj true) (aLen (m_all S) + 1)) - pS (bM (m_all S) pj) ef30 (cS (selAM (m_all S) pj true) (aLen (m_all S) + 1))))), (0, .ref (am 0)), (1, .int (nI (pj))), (2, .int (nI (c0)))]) hC.1 hC.2.1 dX8_replace_109 hl (by decide) rfl (fun ls hl => ?_)
                refine lv_iconst (v := nI (0)) hC.1 hC.2.1 dX8_replace_111 rfl ?_
                refine lv_istore (lv' := [(5, .int (nI (0))), (4, .int (nI (0))), (3, .int (nI (aLen (m_all S) + (cS (selAM (m_all S) pj true) (aLen (m_all S) + 1)) - pS (bM (m_all S) pj) ef30 (cS (selAM (m_all S) pj true) (aLen (m_all S) + 1))))), (0, .ref (am 0)), (1, .int (nI (pj))), (2, .int (nI (c0)))]) hC.1 hC.2.1 dX8_replace_112 hl (by decide) rfl (fun ls hl => ?_)
                have loop114 : ∀ (n9 : Nat) (ri : Nat) (wa : Nat → Nat), (ri ≤ cS (selAM (m_all S) pj true) (aLen (m_all S) + 1)) → (repI (m_all S) (c0 - 97) (bM (m_all S) pj) ef30 ri 0 wa) → cS (selAM (m_all S) pj true) (aLen (m_all S) + 1) - ri < n9 → ∀ (H : Heap) (locs : List Loc) (ls : Array Slot), HH G A s.heap (wM G am (w_nends (w_endAt (w_begin (w_fewest (w_kept (w_all (S) (wa)) (kp98)) (fw30)) (bg30)) (ef30)) (cS (selAM (m_all S) (pj) true) (aLen (m_all S) + 1)))) H locs → lv_has ls 7 [(5, .int (nI (ri))), (4, .int (nI (repP ef30 ri))), (0, .ref (am 0)), (1, .int (nI (pj))), (2, .int (nI (c0)))] → W p l e { frames := 4, cells := 0, slots := 0, locals := 94 } s m args below meth c H locs 0 0 (EndI G (wM G am) A (fun r S' => (isPm (m_all S) (nI (pj)) = false ∧ r = -1 ∧ S' = S) ∨ ∃ j, (nI (pj)) = nI j ∧ j < aPc (m_all S) ∧ ((isLet c0 = false ∧ r = -2 ∧ S' = S) ∨ (isLet c0 = true ∧ ∃ ef, LR ef (selAM (m_all S) j true) (aLen (m_all S) + 1) ∧ ((cS (selAM (m_all S) j true) (aLen (m_all S) + 1) = 0 ∧ r = -5 ∧ samM S S') ∨ (0 < cS (selAM (m_all S) j true) (aLen (m_all S) + 1) ∧ 120 < aLen (m_all S) + cS (selAM (m_all S) j true) (aLen (m_all S) + 1) - pS (bM (m_all S) j) ef (cS (selAM (m_all S) j true) (aLen (m_all S) + 1)) ∧ r = -3 ∧ samM S S') ∨ (0 < cS (selAM (m_all S) j true) (aLen (m_all S) + 1) ∧ aLen (m_all S) + cS (selAM (m_all S) j true) (aLen (m_all S) + 1) - pS (bM (m_all S) j) ef (cS (selAM (m_all S) j true) (aLen (m_all S) + 1)) ≤ 120 ∧ r = nI (cS (selAM (m_all S) j true) (aLen (m_all S) + 1)) ∧ repA (m_all S) (m_all S') (c0 - 97) (bM (m_all S) j) ef (aLen (m_all S)) (cS (selAM (m_all S) j true) (aLen (m_all S) + 1)) ∧ actM S S'))))) below args s 0 0) (F0 m 114 ls []) := by
                  intro n9
                  induction n9 with
                  | zero => intro ri wa hri hI hn9; exact absurd hn9 (Nat.not_lt_zero _)
                  | succ n9 ih114 =>
                    intro ri wa hri hI hn9 H locs ls hX hl
                    refine lv_iload hC.1 hC.2.1 dX8_replace_114 (lv_at hl 0 rfl) ?_
                    refine lv_aload_n hC.1 hC.2.1 dX8_replace_116 rfl (lv_at hl 2 rfl) ?_
                    refine g_m_nends hC fi_X8_replace_X8 hK hX (wd9 hC 3 rfl) dX8_replace_117 (v := cS (selAM (m_all S) (pj) true) (aLen (m_all S) + 1)) rfl ?_
                    refine n_icmp_ge hC (a := ri) (b := cS (selAM (m_all S) (pj) true) (aLen (m_all S) + 1)) (tgt := 181) dX8_replace_120 (by decide) (by omega) (by omega) (fun c120 => ?_) (fun c120 => ?_)
                    · skip
                      obtain rfl : ri = cS (selAM (m_all S) pj true) (aLen (m_all S) + 1) := by omega
                      have hpl9 := repP_L hpk (r := cS (selAM (m_all S) pj true) (aLen (m_all S) + 1)) (Nat.le_refl _)
                      have hfn9 := repL_F hpk
                      refine lv_iload hC.1 hC.2.1 dX8_replace_181 (lv_at hl 1 rfl) ?_
                      refine lv_istore (lv' := [(5, .int (nI (repP ef30 (cS (selAM (m_all S) pj true) (aLen (m_all S) + 1))))), (4, .int (nI (repP ef30 (cS (selAM (m_all S) pj true) (aLen (m_all S) + 1))))), (0, .ref (am 0)), (1, .int (nI (pj))), (2, .int (nI (c0)))]) hC.1 hC.2.1 dX8_replace_183 hl (by decide) rfl (fun ls hl => ?_)
                      have loop185 : ∀ (n9 : Nat) (ee : Nat) (wc : Nat → Nat), (repP ef30 (cS (selAM (m_all S) pj true) (aLen (m_all S) + 1)) ≤ ee) → (ee ≤ aLen (m_all S)) → (repI (m_all S) (c0 - 97) (bM (m_all S) pj) ef30 (cS (selAM (m_all S) pj true) (aLen (m_all S) + 1)) (ee - repP ef30 (cS (selAM (m_all S) pj true) (aLen (m_all S) + 1))) wc) → aLen (m_all S) - ee < n9 → ∀ (H : Heap) (locs : List Loc) (ls : Array Slot), HH G A s.heap (wM G am (w_nends (w_endAt (w_begin (w_fewest (w_kept (w_all (S) (wc)) (kp98)) (fw30)) (bg30)) (ef30)) (cS (selAM (m_all S) (pj) true) (aLen (m_all S) + 1)))) H locs → lv_has ls 7 [(5, .int (nI (ee))), (4, .int (nI (repP ef30 (cS (selAM (m_all S) pj true) (aLen (m_all S) + 1))))), (0, .ref (am 0)), (1, .int (nI (pj))), (2, .int (nI (c0)))] → W p l e { frames := 4, cells := 0, slots := 0, locals := 94 } s m args below meth c H locs 0 0 (EndI G (wM G am) A (fun r S' => (isPm (m_all S) (nI (pj)) = false ∧ r = -1 ∧ S' = S) ∨ ∃ j, (nI (pj)) = nI j ∧ j < aPc (m_all S) ∧ ((isLet c0 = false ∧ r = -2 ∧ S' = S) ∨ (isLet c0 = true ∧ ∃ ef, LR ef (selAM (m_all S) j true) (aLen (m_all S) + 1) ∧ ((cS (selAM (m_all S) j true) (aLen (m_all S) + 1) = 0 ∧ r = -5 ∧ samM S S') ∨ (0 < cS (selAM (m_all S) j true) (aLen (m_all S) + 1) ∧ 120 < aLen (m_all S) + cS (selAM (m_all S) j true) (aLen (m_all S) + 1) - pS (bM (m_all S) j) ef (cS (selAM (m_all S) j true) (aLen (m_all S) + 1)) ∧ r = -3 ∧ samM S S') ∨ (0 < cS (selAM (m_all S) j true) (aLen (m_all S) + 1) ∧ aLen (m_all S) + cS (selAM (m_all S) j true) (aLen (m_all S) + 1) - pS (bM (m_all S) j) ef (cS (selAM (m_all S) j true) (aLen (m_all S) + 1)) ≤ 120 ∧ r = nI (cS (selAM (m_all S) j true) (aLen (m_all S) + 1)) ∧ repA (m_all S) (m_all S') (c0 - 97) (bM (m_all S) j) ef (aLen (m_all S)) (cS (selAM (m_all S) j true) (aLen (m_all S) + 1)) ∧ actM S S'))))) below args s 0 0) (F0 m 185 ls []) := by
                        intro n9
                        induction n9 with
                        | zero => intro ee wc he1 he2 hI3 hn9; exact absurd hn9 (Nat.not_lt_zero _)
                        | succ n9 ih185 =>
                          intro ee wc he1 he2 hI3 hn9 H locs ls hX hl
                          refine lv_iload hC.1 hC.2.1 dX8_replace_185 (lv_at hl 0 rfl) ?_
                          refine lv_aload_n hC.1 hC.2.1 dX8_replace_187 rfl (lv_at hl 2 rfl) ?_
                          refine g_m_kept hC fi_X8_replace_X8 hK hX (wd9 hC 6 rfl) dX8_replace_188 ?_
                          refine lv_iconst (v := nI (0)) hC.1 hC.2.1 dX8_replace_191 rfl ?_
                          refine l_m_kept hC hK hX (i := 0) (by decide) dX8_replace_192 (v := aLen (m_all S)) (hkp98 0 (by omega)) ?_
                          refine n_icmp_ge hC (a := ee) (b := aLen (m_all S)) (tgt := 215) dX8_replace_193 (by decide) (by omega) (by omega) (fun c193 => ?_) (fun c193 => ?_)
                          · skip
                            refine lv_aload_n hC.1 hC.2.1 dX8_replace_215 rfl (lv_at hl 2 rfl) ?_
                            refine lv_aload_n hC.1 hC.2.1 dX8_replace_216 rfl (lv_at hl 2 rfl) ?_
                            refine g_m_nends hC fi_X8_replace_X8 hK hX (wd9 hC 3 rfl) dX8_replace_217 (v := cS (selAM (m_all S) (pj) true) (aLen (m_all S) + 1)) rfl ?_
                            refine cv_I (As := [.int (nI (cS (selAM (m_all S) (pj) true) (aLen (m_all S) + 1)))]) (rest := []) hC hK hA hX (c_X8_acted l G am (w_nends (w_endAt (w_begin (w_fewest (w_kept (w_all (S) (wc)) (kp98)) (fw30)) (bg30)) (ef30)) (cS (selAM (m_all S) (pj) true) (aLen (m_all S) + 1))) hhl (nI (cS (selAM (m_all S) (pj) true) (aLen (m_all S) + 1)))) (cwV 1 hC.2.2.2.2 gX8_replace_X8_acted rfl rfl rfl hd_X8_acted ⟨Nat.le_of_ble_eq_true rfl, Nat.le_of_ble_eq_true rfl⟩) (ci := 8) (q := (RX8, TX8, 21)) rfl (q0 := 0) rfl dX8_replace_220 rfl hl.1 rfl (Nat.le_of_ble_eq_true rfl) ⟨(Nat.zero_le _), (Nat.zero_le _)⟩ (fun r9 S9 H locs hp9 hX => ?_)
                            obtain ⟨h9, hh220, hS9, hrec220⟩ := hp9
                            rw [hS9] at hX
                            obtain rfl : r9 = _ := h9
                            replace hX : HH G A s.heap (wM G am (w_nends (w_endAt (w_begin (w_fewest (w_hlong (w_hist (w_kept (w_all (S) (wc)) (kp98)) (hh220)) (mHl (w_nends (w_endAt (w_begin (w_fewest (w_kept (w_all (S) (wc)) (kp98)) (fw30)) (bg30)) (ef30)) (cS (selAM (m_all S) (pj) true) (aLen (m_all S) + 1))) + 1)) (fw30)) (bg30)) (ef30)) (cS (selAM (m_all S) (pj) true) (aLen (m_all S) + 1)))) H locs := hX
                            refine r_ireturn hC hr hlk hX dX8_replace_223 ?_
                            obtain rfl : ee = aLen (m_all S) := by omega
                            exact Or.inr ⟨pj, rfl, hpj, Or.inr ⟨c21, ef30, hLR30, Or.inr (Or.inr ⟨by omega, by omega, rfl, repA_of hI3 hpk rfl, act_of hrec220 rfl rfl hkp98 rfl rfl rfl rfl⟩)⟩⟩
                          · skip
                            refine lv_aload_n hC.1 hC.2.1 dX8_replace_196 rfl (lv_at hl 2 rfl) ?_
                            refine lv_aload_n hC.1 hC.2.1 dX8_replace_197 rfl (lv_at hl 2 rfl) ?_
                            refine g_m_kept hC fi_X8_replace_X8 hK hX (wd9 hC 6 rfl) dX8_replace_198 ?_
                            refine lv_iconst (v := nI (3)) hC.1 hC.2.1 dX8_replace_201 rfl ?_
                            refine lv_iload hC.1 hC.2.1 dX8_replace_202 (lv_at hl 0 rfl) ?_
                            refine n_add hC (a := 3) (b := ee) dX8_replace_204 ?_
                            refine l_m_kept hC hK hX (i := 3 + ee) (by omega) dX8_replace_205 (v := aTx (m_all S) ee) (hkp98 _ (by omega)) ?_
                            refine cv_V (As := [.int (nI (aTx (m_all S) ee))]) (rest := []) hC hK hA hX (c_X8_writes l G am (w_nends (w_endAt (w_begin (w_fewest (w_kept (w_all (S) (wc)) (kp98)) (fw30)) (bg30)) (ef30)) (cS (selAM (m_all S) (pj) true) (aLen (m_all S) + 1))) (aTx (m_all S) ee) (show aLen wc < 120 from by rw [hI3.1]; omega)) (cwV 1 hC.2.2.2.2 gX8_replace_X8_writes rfl rfl rfl hd_X8_writes ⟨Nat.le_of_ble_eq_true rfl, Nat.le_of_ble_eq_true rfl⟩) (ci := 8) (q := (RX8, TX8, 21)) rfl (q0 := 0) rfl dX8_replace_206 rfl hl.1 rfl (Nat.le_of_ble_eq_true rfl) ⟨(Nat.zero_le _), (Nat.zero_le _)⟩ (fun S9 H locs hp9 hX => ?_)
                            rw [hp9] at hX
                            replace hX : HH G A s.heap (wM G am (w_nends (w_endAt (w_begin (w_fewest (w_kept (w_all (S) (wA (wc) (aTx (m_all S) ee))) (kp98)) (fw30)) (bg30)) (ef30)) (cS (selAM (m_all S) (pj) true) (aLen (m_all S) + 1)))) H locs := hX
                            refine lv_iinc (v := nI (ee + 1)) (lv' := [(5, .int (nI (ee + 1))), (4, .int (nI (repP ef30 (cS (selAM (m_all S) pj true) (aLen (m_all S) + 1))))), (0, .ref (am 0)), (1, .int (nI (pj))), (2, .int (nI (c0)))]) hC.1 hC.2.1 dX8_replace_209 hl (k := 0) rfl (n_inc1 _) (by decide) rfl (fun ls hl => ?_)
                            refine lv_goto (tgt := 185) hC.1 hC.2.1 dX8_replace_212 (by decide) ?_
                            refine ih185 (ee + 1) (wA (wc) (aTx (m_all S) ee)) ?_ ?_ ?_ ?_ _ _ ls hX (lv_sub hl [0, 1, 2, 3, 4] rfl)
                            · omega
                            · omega
                            · have h9 := repI_s hI3 (by omega) (hTx _ (by omega))
                              rw [show repP ef30 (cS (selAM (m_all S) pj true) (aLen (m_all S) + 1)) + (ee - repP ef30 (cS (selAM (m_all S) pj true) (aLen (m_all S) + 1))) = ee by omega] at h9
                              rwa [show ee - repP ef30 (cS (selAM (m_all S) pj true) (aLen (m_all S) + 1)) + 1 = ee + 1 - repP ef30 (cS (selAM (m_all S) pj true) (aLen (m_all S) + 1)) by omega] at h9
                            · omega
                      refine loop185 _ (repP ef30 (cS (selAM (m_all S) pj true) (aLen (m_all S) + 1))) (wa) ?_ ?_ ?_ (Nat.lt_succ_self _) _ _ ls hX (lv_sub hl [0, 1, 2, 3, 4] rfl)
                      · exact Nat.le_refl _
                      · exact hpl9
                      · rw [Nat.sub_self]; exact hI
                    · skip
                      have hef := hes30 ri (by omega)
                      have hbe := hbm (ef30 ri) hef.1
                      have hrr := rep_room hpk (show ri < cS (selAM (m_all S) pj true) (aLen (m_all S) + 1) by omega) (by omega)
                      have hpp := repP_le hpk (show ri < cS (selAM (m_all S) pj true) (aLen (m_all S) + 1) by omega)
                      refine lv_iload hC.1 hC.2.1 dX8_replace_123 (lv_at hl 1 rfl) ?_
                      refine lv_istore (lv' := [(6, .int (nI (repP ef30 ri))), (5, .int (nI (ri))), (4, .int (nI (repP ef30 ri))), (0, .ref (am 0)), (1, .int (nI (pj))), (2, .int (nI (c0)))]) hC.1 hC.2.1 dX8_replace_125 hl (by decide) rfl (fun ls hl => ?_)
                      have loop127 : ∀ (n9 : Nat) (ee : Nat) (wb : Nat → Nat), (repP ef30 ri ≤ ee) → (ee ≤ bM (m_all S) pj (ef30 ri)) → (repI (m_all S) (c0 - 97) (bM (m_all S) pj) ef30 ri (ee - repP ef30 ri) wb) → bM (m_all S) pj (ef30 ri) - ee < n9 → ∀ (H : Heap) (locs : List Loc) (ls : Array Slot), HH G A s.heap (wM G am (w_nends (w_endAt (w_begin (w_fewest (w_kept (w_all (S) (wb)) (kp98)) (fw30)) (bg30)) (ef30)) (cS (selAM (m_all S) (pj) true) (aLen (m_all S) + 1)))) H locs → lv_has ls 7 [(6, .int (nI (ee))), (5, .int (nI (ri))), (4, .int (nI (repP ef30 ri))), (0, .ref (am 0)), (1, .int (nI (pj))), (2, .int (nI (c0)))] → W p l e { frames := 4, cells := 0, slots := 0, locals := 94 } s m args below meth c H locs 0 0 (EndI G (wM G am) A (fun r S' => (isPm (m_all S) (nI (pj)) = false ∧ r = -1 ∧ S' = S) ∨ ∃ j, (nI (pj)) = nI j ∧ j < aPc (m_all S) ∧ ((isLet c0 = false ∧ r = -2 ∧ S' = S) ∨ (isLet c0 = true ∧ ∃ ef, LR ef (selAM (m_all S) j true) (aLen (m_all S) + 1) ∧ ((cS (selAM (m_all S) j true) (aLen (m_all S) + 1) = 0 ∧ r = -5 ∧ samM S S') ∨ (0 < cS (selAM (m_all S) j true) (aLen (m_all S) + 1) ∧ 120 < aLen (m_all S) + cS (selAM (m_all S) j true) (aLen (m_all S) + 1) - pS (bM (m_all S) j) ef (cS (selAM (m_all S) j true) (aLen (m_all S) + 1)) ∧ r = -3 ∧ samM S S') ∨ (0 < cS (selAM (m_all S) j true) (aLen (m_all S) + 1) ∧ aLen (m_all S) + cS (selAM (m_all S) j true) (aLen (m_all S) + 1) - pS (bM (m_all S) j) ef (cS (selAM (m_all S) j true) (aLen (m_all S) + 1)) ≤ 120 ∧ r = nI (cS (selAM (m_all S) j true) (aLen (m_all S) + 1)) ∧ repA (m_all S) (m_all S') (c0 - 97) (bM (m_all S) j) ef (aLen (m_all S)) (cS (selAM (m_all S) j true) (aLen (m_all S) + 1)) ∧ actM S S'))))) below args s 0 0) (F0 m 127 ls []) := by
                        intro n9
                        induction n9 with
                        | zero => intro ee wb he1 he2 hI2 hn9; exact absurd hn9 (Nat.not_lt_zero _)
                        | succ n9 ih127 =>
                          intro ee wb he1 he2 hI2 hn9 H locs ls hX hl
                          have hap : aPl wb pj = aPl (m_all S) pj := hI2.2.2.2 _ (by omega)
                          refine lv_iload hC.1 hC.2.1 dX8_replace_127 (lv_at hl 0 rfl) ?_
                          refine lv_aload_n hC.1 hC.2.1 dX8_replace_129 rfl (lv_at hl 3 rfl) ?_
                          refine lv_iload_n hC.1 hC.2.1 dX8_replace_130 rfl (lv_at hl 4 rfl) ?_
                          refine lv_iload hC.1 hC.2.1 dX8_replace_131 (lv_at hl 1 rfl) ?_
                          refine cv_I (As := [.int (nI (pj)), .int (nI (ri))]) (rest := [.int (nI (ee))]) hC hK hA hX (c_X8_beginOf l G am (w_nends (w_endAt (w_begin (w_fewest (w_kept (w_all (S) (wb)) (kp98)) (fw30)) (bg30)) (ef30)) (cS (selAM (m_all S) (pj) true) (aLen (m_all S) + 1))) (pj) (ri) (kM (m_all S) pj (ef30 (ri))) hp0 (show aPl wb pj ≤ 60 from by rw [hap]; exact hpl) (show ri < 121 from by omega) (show ef30 ri ≤ 120 from by omega) (show cellK fw30 bg30 (121 * aPl wb pj + ef30 ri) (kM (m_all S) pj (ef30 ri)) from by rw [hap]; exact hck30 (ef30 ri) (by omega))) (cwV 2 hC.2.2.2.2 gX8_replace_X8_beginOf rfl rfl rfl hd_X8_beginOf ⟨Nat.le_of_ble_eq_true rfl, Nat.le_of_ble_eq_true rfl⟩) (ci := 8) (q := (RX8, TX8, 21)) rfl (q0 := 0) rfl dX8_replace_133 rfl hl.1 rfl (Nat.le_of_ble_eq_true rfl) ⟨(Nat.zero_le _), (Nat.zero_le _)⟩ (fun r9 S9 H locs hp9 hX => ?_)
                          obtain ⟨h9, hS9⟩ := hp9
                          rw [hS9] at hX
                          obtain rfl : r9 = nI (bM (m_all S) pj (ef30 (ri))) := h9
                          replace hX : HH G A s.heap (wM G am (w_nends (w_endAt (w_begin (w_fewest (w_kept (w_all (S) (wb)) (kp98)) (fw30)) (bg30)) (ef30)) (cS (selAM (m_all S) (pj) true) (aLen (m_all S) + 1)))) H locs := hX
                          refine n_icmp_ge hC (a := ee) (b := bM (m_all S) pj (ef30 (ri))) (tgt := 158) dX8_replace_136 (by decide) (by omega) (by omega) (fun c136 => ?_) (fun c136 => ?_)
                          · skip
                            refine lv_aload_n hC.1 hC.2.1 dX8_replace_158 rfl (lv_at hl 3 rfl) ?_
                            refine lv_iload_n hC.1 hC.2.1 dX8_replace_159 rfl (lv_at hl 5 rfl) ?_
                            refine lv_bipush (v := nI (97)) hC.1 hC.2.1 dX8_replace_160 (by decide +kernel) ?_
                            refine n_sub hC (a := c0) (b := 97) dX8_replace_162 (by omega) ?_
                            refine cv_V (As := [.int (nI (c0 - 97))]) (rest := []) hC hK hA hX (c_X8_writes l G am (w_nends (w_endAt (w_begin (w_fewest (w_kept (w_all (S) (wb)) (kp98)) (fw30)) (bg30)) (ef30)) (cS (selAM (m_all S) (pj) true) (aLen (m_all S) + 1))) (c0 - 97) (show aLen wb < 120 from by rw [hI2.1]; omega)) (cwV 1 hC.2.2.2.2 gX8_replace_X8_writes rfl rfl rfl hd_X8_writes ⟨Nat.le_of_ble_eq_true rfl, Nat.le_of_ble_eq_true rfl⟩) (ci := 8) (q := (RX8, TX8, 21)) rfl (q0 := 0) rfl dX8_replace_163 rfl hl.1 rfl (Nat.le_of_ble_eq_true rfl) ⟨(Nat.zero_le _), (Nat.zero_le _)⟩ (fun S9 H locs hp9 hX => ?_)
                            rw [hp9] at hX
                            replace hX : HH G A s.heap (wM G am (w_nends (w_endAt (w_begin (w_fewest (w_kept (w_all (S) (wA (wb) (c0 - 97))) (kp98)) (fw30)) (bg30)) (ef30)) (cS (selAM (m_all S) (pj) true) (aLen (m_all S) + 1)))) H locs := hX
                            refine lv_aload_n hC.1 hC.2.1 dX8_replace_166 rfl (lv_at hl 3 rfl) ?_
                            refine g_m_endAt hC fi_X8_replace_X8 hK hX (wd9 hC 5 rfl) dX8_replace_167 ?_
                            refine lv_iload hC.1 hC.2.1 dX8_replace_170 (lv_at hl 1 rfl) ?_
                            refine l_m_endAt hC hK hX (i := ri) (by omega) dX8_replace_172 (v := ef30 ri) rfl ?_
                            refine lv_istore (lv' := [(4, .int (nI (ef30 ri))), (6, .int (nI (ee))), (5, .int (nI (ri))), (0, .ref (am 0)), (1, .int (nI (pj))), (2, .int (nI (c0)))]) hC.1 hC.2.1 dX8_replace_173 hl (by decide) rfl (fun ls hl => ?_)
                            refine lv_iinc (v := nI (ri + 1)) (lv' := [(5, .int (nI (ri + 1))), (4, .int (nI (ef30 ri))), (6, .int (nI (ee))), (0, .ref (am 0)), (1, .int (nI (pj))), (2, .int (nI (c0)))]) hC.1 hC.2.1 dX8_replace_175 hl (k := 2) rfl (n_inc1 _) (by decide) rfl (fun ls hl => ?_)
                            refine lv_goto (tgt := 114) hC.1 hC.2.1 dX8_replace_178 (by decide) ?_
                            refine ih114 (ri + 1) (wA (wb) (c0 - 97)) ?_ ?_ ?_ _ _ ls hX (lv_sub hl [0, 1, 3, 4, 5] rfl)
                            · omega
                            · exact repI_n hI2 hpk (by omega) (by omega) (by omega) (by omega)
                            · omega
                          · skip
                            refine lv_aload_n hC.1 hC.2.1 dX8_replace_139 rfl (lv_at hl 3 rfl) ?_
                            refine lv_aload_n hC.1 hC.2.1 dX8_replace_140 rfl (lv_at hl 3 rfl) ?_
                            refine g_m_kept hC fi_X8_replace_X8 hK hX (wd9 hC 6 rfl) dX8_replace_141 ?_
                            refine lv_iconst (v := nI (3)) hC.1 hC.2.1 dX8_replace_144 rfl ?_
                            refine lv_iload hC.1 hC.2.1 dX8_replace_145 (lv_at hl 0 rfl) ?_
                            refine n_add hC (a := 3) (b := ee) dX8_replace_147 ?_
                            refine l_m_kept hC hK hX (i := 3 + ee) (by omega) dX8_replace_148 (v := aTx (m_all S) ee) (hkp98 _ (by omega)) ?_
                            refine cv_V (As := [.int (nI (aTx (m_all S) ee))]) (rest := []) hC hK hA hX (c_X8_writes l G am (w_nends (w_endAt (w_begin (w_fewest (w_kept (w_all (S) (wb)) (kp98)) (fw30)) (bg30)) (ef30)) (cS (selAM (m_all S) (pj) true) (aLen (m_all S) + 1))) (aTx (m_all S) ee) (show aLen wb < 120 from by rw [hI2.1]; omega)) (cwV 1 hC.2.2.2.2 gX8_replace_X8_writes rfl rfl rfl hd_X8_writes ⟨Nat.le_of_ble_eq_true rfl, Nat.le_of_ble_eq_true rfl⟩) (ci := 8) (q := (RX8, TX8, 21)) rfl (q0 := 0) rfl dX8_replace_149 rfl hl.1 rfl (Nat.le_of_ble_eq_true rfl) ⟨(Nat.zero_le _), (Nat.zero_le _)⟩ (fun S9 H locs hp9 hX => ?_)
                            rw [hp9] at hX
                            replace hX : HH G A s.heap (wM G am (w_nends (w_endAt (w_begin (w_fewest (w_kept (w_all (S) (wA (wb) (aTx (m_all S) ee))) (kp98)) (fw30)) (bg30)) (ef30)) (cS (selAM (m_all S) (pj) true) (aLen (m_all S) + 1)))) H locs := hX
                            refine lv_iinc (v := nI (ee + 1)) (lv' := [(6, .int (nI (ee + 1))), (5, .int (nI (ri))), (4, .int (nI (repP ef30 ri))), (0, .ref (am 0)), (1, .int (nI (pj))), (2, .int (nI (c0)))]) hC.1 hC.2.1 dX8_replace_152 hl (k := 0) rfl (n_inc1 _) (by decide) rfl (fun ls hl => ?_)
                            refine lv_goto (tgt := 127) hC.1 hC.2.1 dX8_replace_155 (by decide) ?_
                            refine ih127 (ee + 1) (wA (wb) (aTx (m_all S) ee)) ?_ ?_ ?_ ?_ _ _ ls hX (lv_sub hl [0, 1, 2, 3, 4, 5] rfl)
                            · omega
                            · omega
                            · have h9 := repI_s hI2 (by omega) (hTx _ (by omega))
                              rw [show repP ef30 ri + (ee - repP ef30 ri) = ee by omega] at h9
                              rwa [show ee - repP ef30 ri + 1 = ee + 1 - repP ef30 ri by omega] at h9
                            · omega
                      refine loop127 _ (repP ef30 ri) (wa) ?_ ?_ ?_ (Nat.lt_succ_self _) _ _ ls hX (lv_sub hl [0, 1, 2, 3, 4, 5] rfl)
                      · exact Nat.le_refl _
                      · exact hpp
                      · rw [Nat.sub_self]; exact hI
                refine loop114 _ (0) (va_up (m_all S) (0) (0)) ?_ ?_ (Nat.lt_succ_self _) _ _ ls hX (lv_sub hl [0, 1, 3, 4, 5] rfl)
                · omega
                · exact repI_0 hTx
              · skip
                refine lv_bipush (v := (-3)) hC.1 hC.2.1 dX8_replace_94 (by decide +kernel) ?_
                refine r_ireturn hC hr hlk hX dX8_replace_96 ?_
                exact Or.inr ⟨pj, rfl, hpj, Or.inr ⟨c21, ef30, hLR30, Or.inr (Or.inl ⟨by omega, by omega, rfl, ⟨rfl, rfl, rfl, rfl, rfl, rfl, rfl⟩⟩)⟩⟩
            · skip
              have hef := hes30 i (by omega)
              have hbe := hbm (ef30 i) hef.1
              have hps1 := pS_L hpk (r := i) (by omega)
              have hps2 := pS_L hpk (r := i + 1) (by omega)
              have hps3 : pS (bM (m_all S) pj) ef30 (i + 1) = pS (bM (m_all S) pj) ef30 i + (ef30 i - (bM (m_all S) pj) (ef30 i)) := rfl
              refine lv_iload_n hC.1 hC.2.1 dX8_replace_62 rfl (lv_at hl 1 rfl) ?_
              refine lv_iconst (v := nI (1)) hC.1 hC.2.1 dX8_replace_63 rfl ?_
              refine lv_aload_n hC.1 hC.2.1 dX8_replace_64 rfl (lv_at hl 2 rfl) ?_
              refine g_m_endAt hC fi_X8_replace_X8 hK hX (wd9 hC 5 rfl) dX8_replace_65 ?_
              refine lv_iload hC.1 hC.2.1 dX8_replace_68 (lv_at hl 0 rfl) ?_
              refine l_m_endAt hC hK hX (i := i) (by omega) dX8_replace_70 (v := ef30 i) rfl ?_
              refine lv_isub hC.1 hC.2.1 dX8_replace_71 ?_
              refine lv_aload_n hC.1 hC.2.1 dX8_replace_72 rfl (lv_at hl 2 rfl) ?_
              refine lv_iload_n hC.1 hC.2.1 dX8_replace_73 rfl (lv_at hl 3 rfl) ?_
              refine lv_iload hC.1 hC.2.1 dX8_replace_74 (lv_at hl 0 rfl) ?_
              refine cv_I (As := [.int (nI (pj)), .int (nI (i))]) (rest := [.int ((nI (1)) - (nI (ef30 i))), .int (nI (aLen (m_all S) + i - pS (bM (m_all S) pj) ef30 i))]) hC hK hA hX (c_X8_beginOf l G am (w_nends (w_endAt (w_begin (w_fewest (S) (fw30)) (bg30)) (ef30)) (cS (selAM (m_all S) (pj) true) (aLen (m_all S) + 1))) (pj) (i) (kM (m_all S) pj (ef30 (i))) hp0 hpl (by omega) (show ef30 i ≤ 120 from by omega) (hck30 (ef30 i) (by omega))) (cwV 2 hC.2.2.2.2 gX8_replace_X8_beginOf rfl rfl rfl hd_X8_beginOf ⟨Nat.le_of_ble_eq_true rfl, Nat.le_of_ble_eq_true rfl⟩) (ci := 8) (q := (RX8, TX8, 21)) rfl (q0 := 0) rfl dX8_replace_76 rfl hl.1 rfl (Nat.le_of_ble_eq_true rfl) ⟨(Nat.zero_le _), (Nat.zero_le _)⟩ (fun r9 S9 H locs hp9 hX => ?_)
              obtain ⟨h9, hS9⟩ := hp9
              rw [hS9] at hX
              obtain rfl : r9 = nI (bM (m_all S) pj (ef30 (i))) := h9
              replace hX : HH G A s.heap (wM G am (w_nends (w_endAt (w_begin (w_fewest (S) (fw30)) (bg30)) (ef30)) (cS (selAM (m_all S) (pj) true) (aLen (m_all S) + 1)))) H locs := hX
              refine lv_iadd hC.1 hC.2.1 dX8_replace_79 ?_
              refine lv_iadd hC.1 hC.2.1 dX8_replace_80 ?_
              refine n_top (y := nI (aLen (m_all S) + (i + 1) - pS (bM (m_all S) pj) ef30 (i + 1))) (lwp2 hps1 hps2 hbe hps3 (by omega)) ?_
              refine lv_istore_n (lv' := [(3, .int (nI (aLen (m_all S) + (i + 1) - pS (bM (m_all S) pj) ef30 (i + 1)))), (4, .int (nI (i))), (0, .ref (am 0)), (1, .int (nI (pj))), (2, .int (nI (c0)))]) hC.1 hC.2.1 dX8_replace_81 rfl hl (by decide) rfl (fun ls hl => ?_)
              refine lv_iinc (v := nI (i + 1)) (lv' := [(4, .int (nI (i + 1))), (3, .int (nI (aLen (m_all S) + (i + 1) - pS (bM (m_all S) pj) ef30 (i + 1)))), (0, .ref (am 0)), (1, .int (nI (pj))), (2, .int (nI (c0)))]) hC.1 hC.2.1 dX8_replace_82 hl (k := 1) rfl (n_inc1 _) (by decide) rfl (fun ls hl => ?_)
              refine lv_goto (tgt := 53) hC.1 hC.2.1 dX8_replace_85 (by decide) ?_
              refine ih53 (i + 1) ?_ ?_ _ _ ls hX (lv_sub hl [0, 1, 2, 3, 4] rfl)
              · omega
              · omega
        refine loop53 _ (0) ?_ (Nat.lt_succ_self _) _ _ ls hX (lv_sub hl [0, 1, 2, 3, 4] rfl)
        · omega
      · skip
        refine lv_bipush (v := (-5)) hC.1 hC.2.1 dX8_replace_40 (by decide +kernel) ?_
        refine r_ireturn hC hr hlk hX dX8_replace_42 ?_
        exact Or.inr ⟨pj, rfl, hpj, Or.inr ⟨c21, ef30, hLR30, Or.inl ⟨by omega, rfl, ⟨rfl, rfl, rfl, rfl, rfl, rfl, rfl⟩⟩⟩⟩
    · skip
      refine lv_bipush (v := (-2)) hC.1 hC.2.1 dX8_replace_24 (by decide +kernel) ?_
      refine r_ireturn hC hr hlk hX dX8_replace_26 ?_
      exact Or.inr ⟨pj, rfl, hpj, Or.inl ⟨c21, rfl, rfl⟩⟩
  · skip
    refine lv_iconst (v := (-1)) hC.1 hC.2.1 dX8_replace_8 rfl ?_
    refine r_ireturn hC hr hlk hX dX8_replace_9 ?_
    exact Or.inl ⟨c5, rfl, rfl⟩
