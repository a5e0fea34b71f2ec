theorem hd_X8_isHere : yX8_isHere.cls = RX8 ∧ yX8_isHere.cls ≠ "java/lang/invoke/MethodHandle" ∧ yX8_isHere.cls ≠ "java/lang/invoke/VarHandle" ∧ (parseMethodDescriptor yX8_isHere.desc).map (fun d => d.parameters.length) = some 2 := by decide +kernel
theorem fi_X8_takesOne_X8 : ∀ w ∈ wsX80, w ∈ wsX8_takesOne := by decide +kernel
set_option maxHeartbeats 4000000 in
set_option maxRecDepth 100000 in
theorem c_X8_takesOne (l : Launch) (G : GX) (am : Nat → Nat) (S : MS) (c0 : Nat) (hc0 : c0 < 2 ^ 31) (hsp0 : m_spot S ≤ m_padLong S) (hpl0 : m_padLong S ≤ 60) (hpd0 : ∀ i, m_pad S i < 65536) : CtI l yX8_takesOne wsX8_takesOne { frames := 2, cells := 0, slots := 0, locals := 47 } G (wM G am) (S) [.ref (am 0), .int (nI (c0))] (fun r S' => r = bI (hereB (m_pad S) (m_padLong S) (m_spot S) c0 c0) ∧ S' = w_spot S (m_spot S + bN (hereB (m_pad S) (m_padLong S) (m_spot S) c0 c0))) 0 0 := by
  refine CtI.of (cc := cX8_takesOne) (maxL := 3) (ret := some .boolean) (by decide +kernel) rfl (Nat.le_of_ble_eq_true rfl) ?_
  intro p e s m args below meth c ls A hC hr hlk hin hK hA hX hl
  have hl : lv_has ls 3 [(0, .ref (am 0)), (1, .int (nI (c0)))] := hl
  refine lv_aload_n hC.1 hC.2.1 dX8_takesOne_0 rfl (lv_at hl 0 rfl) ?_
  refine lv_iload_n hC.1 hC.2.1 dX8_takesOne_1 rfl (lv_at hl 1 rfl) ?_
  refine lv_iload_n hC.1 hC.2.1 dX8_takesOne_2 rfl (lv_at hl 1 rfl) ?_
  refine cv_I (As := [.int (nI (c0)), .int (nI (c0))]) (rest := []) hC hK hA hX (c_X8_isHere l G am (S) (c0) (c0) (by omega) (by omega) hsp0 hpl0 hpd0) (cwV 2 hC.2.2.2.2 gX8_takesOne_X8_isHere rfl rfl rfl hd_X8_isHere ⟨Nat.le_of_ble_eq_true rfl, Nat.le_of_ble_eq_true rfl⟩) (ci := 8) (q := (RX8, TX8, 21)) rfl (q0 := 0) rfl dX8_takesOne_3 rfl hl.1 rfl (Nat.le_of_ble_eq_true rfl) ⟨(Nat.zero_le _), (Nat.zero_le _)⟩ (fun r9 S9 H locs hp9 hX => ?_)
  obtain ⟨h9, hS9⟩ := hp9
  rw [hS9] at hX
  obtain rfl : r9 = bI (hereB (m_pad S) (m_padLong S) (m_spot S) (c0) (c0)) := h9
  replace hX : HH G A s.heap (wM G am (S)) H locs := hX
  refine lv_istore_n (lv' := [(2, .int (bI (hereB (m_pad S) (m_padLong S) (m_spot S) (c0) (c0)))), (0, .ref (am 0)), (1, .int (nI (c0)))]) hC.1 hC.2.1 dX8_takesOne_6 rfl hl (by decide) rfl (fun ls hl => ?_)
  refine lv_aload_n hC.1 hC.2.1 dX8_takesOne_7 rfl (lv_at hl 1 rfl) ?_
  refine lv_dup hC.1 hC.2.1 dX8_takesOne_8 rfl ?_
  refine g_m_spot hC fi_X8_takesOne_X8 hK hX (wd9 hC 1 rfl) dX8_takesOne_9 (v := m_spot S) rfl ?_
  refine lv_iload_n hC.1 hC.2.1 dX8_takesOne_12 rfl (lv_at hl 0 rfl) ?_
  have join21 : ∀ (H : Heap) (locs : List Loc) (ls : Array Slot), HH G A s.heap (wM G am (S)) H locs → lv_has ls 3 [(2, .int (bI (hereB (m_pad S) (m_padLong S) (m_spot S) (c0) (c0)))), (0, .ref (am 0)), (1, .int (nI (c0)))] → W p l e { frames := 2, cells := 0, slots := 0, locals := 47 } s m args below meth c H locs 0 0 (EndI G (wM G am) A (fun r S' => r = bI (hereB (m_pad S) (m_padLong S) (m_spot S) c0 c0) ∧ S' = w_spot S (m_spot S + bN (hereB (m_pad S) (m_padLong S) (m_spot S) c0 c0))) below args s 0 0) (F0 m 21 ls [.int (nI (bN (hereB (m_pad S) (m_padLong S) (m_spot S) c0 c0))), .int (nI (m_spot S)), .ref (am 0)]) := by
    intro  H locs ls  hX hl
    refine n_add hC (a := m_spot S) (b := bN (hereB (m_pad S) (m_padLong S) (m_spot S) c0 c0)) dX8_takesOne_21 ?_
    refine p_m_spot hC fi_X8_takesOne_X8 hK hX (v := (m_spot S) + (bN (hereB (m_pad S) (m_padLong S) (m_spot S) c0 c0))) (wd9 hC 1 rfl) dX8_takesOne_22 (fun H locs hX => ?_)
    replace hX : HH G A s.heap (wM G am (w_spot (S) ((m_spot S) + (bN (hereB (m_pad S) (m_padLong S) (m_spot S) c0 c0))))) H locs := hX
    refine lv_iload_n hC.1 hC.2.1 dX8_takesOne_25 rfl (lv_at hl 0 rfl) ?_
    refine r_zreturn hC hr hlk hX dX8_takesOne_26 (nar_bool _) ?_
    exact ⟨rfl, rfl⟩
  refine b_if_eq hC (b := hereB (m_pad S) (m_padLong S) (m_spot S) (c0) (c0)) (tgt := 20) dX8_takesOne_13 (by decide) (fun c13 => ?_) (fun c13 => ?_)
  · skip
    refine lv_iconst (v := nI (0)) hC.1 hC.2.1 dX8_takesOne_20 rfl ?_
    refine n_top (y := nI (bN (hereB (m_pad S) (m_padLong S) (m_spot S) c0 c0))) (by first | (rw [c13]; rfl)) ?_
    refine join21  _ _ ls  hX (lv_sub hl [0, 1, 2] rfl)
  · skip
    refine lv_iconst (v := nI (1)) hC.1 hC.2.1 dX8_takesOne_16 rfl ?_
    refine lv_goto (tgt := 21) hC.1 hC.2.1 dX8_takesOne_17 (by decide) ?_
    refine n_top (y := nI (bN (hereB (m_pad S) (m_padLong S) (m_spot S) c0 c0))) (by first | (rw [c13]; rfl)) ?_
    refine join21  _ _ ls  hX (lv_sub hl [0, 1, 2] rfl)
theorem hd_X8_takesOne : yX8_takesOne.cls = RX8 ∧ yX8_takesOne.cls ≠ "java/lang/invoke/MethodHandle" ∧ yX8_takesOne.cls ≠ "java/lang/invoke/VarHandle" ∧ (parseMethodDescriptor yX8_takesOne.desc).map (fun d => d.parameters.length) = some 1 := by decide +kernel
theorem hd_X8_reads : yX8_reads.cls = RX8 ∧ yX8_reads.cls ≠ "java/lang/invoke/MethodHandle" ∧ yX8_reads.cls ≠ "java/lang/invoke/VarHandle" ∧ (parseMethodDescriptor yX8_reads.desc).map (fun d => d.parameters.length) = some 1 := by decide +kernel
theorem fi_X8_readsSet_X8 : ∀ w ∈ wsX80, w ∈ wsX8_readsSet := by decide +kernel
set_option maxHeartbeats 4000000 in
set_option maxRecDepth 100000 in
theorem c_X8_readsSet (l : Launch) (G : GX) (am : Nat → Nat) (S : MS) (R0 R : RD) (hse : seB (m_pad S) R0 R (m_padLong S) (m_spot S) (m_readPlaces S) (m_readTakes S)) (hpl0 : m_padLong S ≤ 60) (hpd0 : ∀ i, m_pad S i < 65536) : CtI l yX8_readsSet wsX8_readsSet { frames := 3, cells := 0, slots := 0, locals := 69 } G (wM G am) (S) [.ref (am 0)] (fun r S' => ∃ q sp rp rt, r = bI q ∧ S' = w_readPlaces (w_readTakes (w_spot S sp) rt) rp ∧ m_spot S ≤ sp ∧ ((q = true ∧ m_spot S < sp ∧ rdOK (m_pad S) R0 (m_padLong S) sp rp rt (rd_bound R)) ∨ (q = false ∧ rdBad (m_pad S) R0 (m_padLong S) sp))) 0 0 := by
  refine CtI.of (cc := cX8_readsSet) (maxL := 4) (ret := some .boolean) (by decide +kernel) rfl (Nat.le_of_ble_eq_true rfl) ?_
  intro p e s m args below meth c ls A hC hr hlk hin hK hA hX hl
  have hl : lv_has ls 4 [(0, .ref (am 0))] := hl
  have hsi := setI_0 hse
  obtain ⟨e1, hsp0, e3, e4, e5, hrp, hrs, hrt⟩ := hse
  refine lv_aload_n hC.1 hC.2.1 dX8_readsSet_0 rfl (lv_at hl 0 rfl) ?_
  refine lv_bipush (v := nI (45)) hC.1 hC.2.1 dX8_readsSet_1 (by decide +kernel) ?_
  refine cv_I (As := [.int (nI (45))]) (rest := []) hC hK hA hX (c_X8_takesOne l G am (S) (45) (by decide) hsp0 hpl0 hpd0) (cwV 1 hC.2.2.2.2 gX8_readsSet_X8_takesOne rfl rfl rfl hd_X8_takesOne ⟨Nat.le_of_ble_eq_true rfl, Nat.le_of_ble_eq_true rfl⟩) (ci := 8) (q := (RX8, TX8, 21)) rfl (q0 := 0) rfl dX8_readsSet_3 rfl hl.1 rfl (Nat.le_of_ble_eq_true rfl) ⟨(Nat.zero_le _), (Nat.zero_le _)⟩ (fun r9 S9 H locs hp9 hX => ?_)
  obtain ⟨h9, hS9⟩ := hp9
  rw [hS9] at hX
  obtain rfl : r9 = bI (hereB (m_pad S) (m_padLong S) (m_spot S) (45) (45)) := h9
  replace hX : HH G A s.heap (wM G am (w_spot (S) (m_spot S + bN (hereB (m_pad S) (m_padLong S) (m_spot S) (45) (45))))) H locs := hX
  refine lv_istore_n (lv' := [(1, .int (bI (hereB (m_pad S) (m_padLong S) (m_spot S) (45) (45)))), (0, .ref (am 0))]) hC.1 hC.2.1 dX8_readsSet_6 rfl hl (by decide) rfl (fun ls hl => ?_)
  refine lv_iconst (v := nI (0)) hC.1 hC.2.1 dX8_readsSet_7 rfl ?_
  refine lv_istore_n (lv' := [(2, .int (nI (0))), (1, .int (bI (hereB (m_pad S) (m_padLong S) (m_spot S) (45) (45)))), (0, .ref (am 0))]) hC.1 hC.2.1 dX8_readsSet_8 rfl hl (by decide) rfl (fun ls hl => ?_)
  refine lv_bipush (v := nI (97)) hC.1 hC.2.1 dX8_readsSet_9 (by decide +kernel) ?_
  refine lv_istore_n (lv' := [(3, .int (nI (97))), (2, .int (nI (0))), (1, .int (bI (hereB (m_pad S) (m_padLong S) (m_spot S) (45) (45)))), (0, .ref (am 0))]) hC.1 hC.2.1 dX8_readsSet_11 rfl hl (by decide) rfl (fun ls hl => ?_)
  have loop12 : ∀ (n9 : Nat) (sp : Nat) (st : Nat) (le : Nat), (setI (m_pad S) R0 R (m_padLong S) (hereB (m_pad S) (m_padLong S) (m_spot S) 45 45) sp st le) → (m_spot S ≤ sp) → m_padLong S + 1 - sp < n9 → ∀ (H : Heap) (locs : List Loc) (ls : Array Slot), HH G A s.heap (wM G am (w_spot (S) (sp))) H locs → lv_has ls 4 [(3, .int (nI (le))), (2, .int (nI (st))), (1, .int (bI (hereB (m_pad S) (m_padLong S) (m_spot S) (45) (45)))), (0, .ref (am 0))] → W p l e { frames := 3, cells := 0, slots := 0, locals := 69 } s m args below meth c H locs 0 0 (EndI G (wM G am) A (fun r S' => ∃ q sp rp rt, r = bI q ∧ S' = w_readPlaces (w_readTakes (w_spot S sp) rt) rp ∧ m_spot S ≤ sp ∧ ((q = true ∧ m_spot S < sp ∧ rdOK (m_pad S) R0 (m_padLong S) sp rp rt (rd_bound R)) ∨ (q = false ∧ rdBad (m_pad S) R0 (m_padLong S) sp))) below args s 0 0) (F0 m 12 ls []) := by
    intro n9
    induction n9 with
    | zero => intro sp st le hI hspm hn9; exact absurd hn9 (Nat.not_lt_zero _)
    | succ n9 ih12 =>
      intro sp st le hI hspm hn9 H locs ls hX hl
      obtain ⟨hsp1, hst1, hle1, hle2, hcs1⟩ := setI_le hI
      refine lv_aload_n hC.1 hC.2.1 dX8_readsSet_12 rfl (lv_at hl 3 rfl) ?_
      refine lv_iload_n hC.1 hC.2.1 dX8_readsSet_13 rfl (lv_at hl 0 rfl) ?_
      refine lv_bipush (v := nI (122)) hC.1 hC.2.1 dX8_readsSet_14 (by decide +kernel) ?_
      refine cv_I (As := [.int (nI (le)), .int (nI (122))]) (rest := []) hC hK hA hX (c_X8_isHere l G am (w_spot (S) (sp)) (le) (122) (by omega) (by decide) hsp1 hpl0 hpd0) (cwV 2 hC.2.2.2.2 gX8_readsSet_X8_isHere rfl rfl rfl hd_X8_isHere ⟨Nat.le_of_ble_eq_true rfl, Nat.le_of_ble_eq_true rfl⟩) (ci := 8) (q := (RX8, TX8, 21)) rfl (q0 := 0) rfl dX8_readsSet_16 rfl hl.1 rfl (Nat.le_of_ble_eq_true rfl) ⟨(Nat.zero_le _), (Nat.zero_le _)⟩ (fun r9 S9 H locs hp9 hX => ?_)
      obtain ⟨h9, hS9⟩ := hp9
      rw [hS9] at hX
      obtain rfl : r9 = bI (hereB (m_pad S) (m_padLong S) (sp) (le) (122)) := h9
      replace hX : HH G A s.heap (wM G am (w_spot (S) (sp))) H locs := hX
      refine b_if_eq hC (b := hereB (m_pad S) (m_padLong S) (sp) (le) (122)) (tgt := 64) dX8_readsSet_19 (by decide) (fun c19 => ?_) (fun c19 => ?_)
      · skip
        refine lv_iload_n hC.1 hC.2.1 dX8_readsSet_64 rfl (lv_at hl 1 rfl) ?_
        refine n_if_eq hC (a := st) (tgt := 77) dX8_readsSet_65 (by decide) (by omega) (fun c65 => ?_) (fun c65 => ?_)
        · skip
          refine lv_iconst (v := nI (0)) hC.1 hC.2.1 dX8_readsSet_77 rfl ?_
          refine r_zreturn hC hr hlk hX dX8_readsSet_78 rfl ?_
          first | exact ⟨false, sp, _, _, rfl, rfl, hspm, Or.inr ⟨rfl, setI_nl hI c19 (fun h _ => absurd h (by omega))⟩⟩ | exact ⟨false, sp, _, _, rfl, rfl, hspm, Or.inr ⟨rfl, setI_nl hI c19 (fun _ hs => here_f c74 hs)⟩⟩
        · skip
          refine lv_aload_n hC.1 hC.2.1 dX8_readsSet_68 rfl (lv_at hl 3 rfl) ?_
          refine lv_bipush (v := nI (93)) hC.1 hC.2.1 dX8_readsSet_69 (by decide +kernel) ?_
          refine cv_I (As := [.int (nI (93))]) (rest := []) hC hK hA hX (c_X8_takesOne l G am (w_spot (S) (sp)) (93) (by decide) hsp1 hpl0 hpd0) (cwV 1 hC.2.2.2.2 gX8_readsSet_X8_takesOne rfl rfl rfl hd_X8_takesOne ⟨Nat.le_of_ble_eq_true rfl, Nat.le_of_ble_eq_true rfl⟩) (ci := 8) (q := (RX8, TX8, 21)) rfl (q0 := 0) rfl dX8_readsSet_71 rfl hl.1 rfl (Nat.le_of_ble_eq_true rfl) ⟨(Nat.zero_le _), (Nat.zero_le _)⟩ (fun r9 S9 H locs hp9 hX => ?_)
          obtain ⟨h9, hS9⟩ := hp9
          rw [hS9] at hX
          obtain rfl : r9 = bI (hereB (m_pad S) (m_padLong S) (sp) (93) (93)) := h9
          replace hX : HH G A s.heap (wM G am (w_spot (S) (sp + bN (hereB (m_pad S) (m_padLong S) (sp) (93) (93))))) H locs := hX
          refine b_if_ne hC (b := hereB (m_pad S) (m_padLong S) (sp) (93) (93)) (tgt := 79) dX8_readsSet_74 (by decide) (fun c74 => ?_) (fun c74 => ?_)
          · skip
            rw [show bN (hereB (m_pad S) (m_padLong S) sp 93 93) = 1 from by rw [c74]; rfl] at hX
            replace hX : HH G A s.heap (wM G am (w_spot (S) (sp + 1))) H locs := hX
            refine lv_aload_n hC.1 hC.2.1 dX8_readsSet_79 rfl (lv_at hl 3 rfl) ?_
            have join94 : ∀ (H : Heap) (locs : List Loc) (ls : Array Slot), HH G A s.heap (wM G am (w_spot (S) (sp + 1))) H locs → lv_has ls 4 [(3, .int (nI (le))), (2, .int (nI (st))), (1, .int (bI (hereB (m_pad S) (m_padLong S) (m_spot S) (45) (45)))), (0, .ref (am 0))] → W p l e { frames := 3, cells := 0, slots := 0, locals := 69 } s m args below meth c H locs 0 0 (EndI G (wM G am) A (fun r S' => ∃ q sp rp rt, r = bI q ∧ S' = w_readPlaces (w_readTakes (w_spot S sp) rt) rp ∧ m_spot S ≤ sp ∧ ((q = true ∧ m_spot S < sp ∧ rdOK (m_pad S) R0 (m_padLong S) sp rp rt (rd_bound R)) ∨ (q = false ∧ rdBad (m_pad S) R0 (m_padLong S) sp))) below args s 0 0) (F0 m 94 ls [.int (nI (if hereB (m_pad S) (m_padLong S) (m_spot S) 45 45 = true then cmpl st else st)), .ref (am 0)]) := by
              intro  H locs ls  hX hl
              refine cv_V (As := [.int (nI (if hereB (m_pad S) (m_padLong S) (m_spot S) 45 45 = true then cmpl st else st))]) (rest := []) hC hK hA hX (c_X8_reads l G am (w_spot (S) (sp + 1)) (if hereB (m_pad S) (m_padLong S) (m_spot S) 45 45 = true then cmpl st else st) (show m_readPlaces S < 60 from by omega)) (cwV 1 hC.2.2.2.2 gX8_readsSet_X8_reads rfl rfl rfl hd_X8_reads ⟨Nat.le_of_ble_eq_true rfl, Nat.le_of_ble_eq_true rfl⟩) (ci := 8) (q := (RX8, TX8, 21)) rfl (q0 := 0) rfl dX8_readsSet_94 rfl hl.1 rfl (Nat.le_of_ble_eq_true rfl) ⟨(Nat.zero_le _), (Nat.zero_le _)⟩ (fun S9 H locs hp9 hX => ?_)
              rw [hp9] at hX
              replace hX : HH G A s.heap (wM G am (w_readTakes (w_readPlaces (w_spot (S) (sp + 1)) (m_readPlaces S + 1)) (va_up (m_readTakes S) (m_readPlaces S) (if hereB (m_pad S) (m_padLong S) (m_spot S) 45 45 = true then cmpl st else st)))) H locs := hX
              refine lv_iconst (v := nI (1)) hC.1 hC.2.1 dX8_readsSet_97 rfl ?_
              refine r_zreturn hC hr hlk hX dX8_readsSet_98 rfl ?_
              first | exact ⟨true, _, _, _, rfl, rfl, by omega, Or.inl ⟨rfl, by omega, setI_ok hI (by omega) c74 hrp hrt⟩⟩
            refine lv_iload_n hC.1 hC.2.1 dX8_readsSet_80 rfl (lv_at hl 2 rfl) ?_
            refine b_if_eq hC (b := hereB (m_pad S) (m_padLong S) (m_spot S) (45) (45)) (tgt := 93) dX8_readsSet_81 (by decide) (fun c81 => ?_) (fun c81 => ?_)
            · skip
              refine lv_iload_n hC.1 hC.2.1 dX8_readsSet_93 rfl (lv_at hl 1 rfl) ?_
              refine n_top (y := nI (if hereB (m_pad S) (m_padLong S) (m_spot S) 45 45 = true then cmpl st else st)) (by first | rw [if_pos c81] | rw [if_neg (by rw [c81]; decide)]) ?_
              refine join94  _ _ ls  hX (lv_sub hl [0, 1, 2, 3] rfl)
            · skip
              refine lv_ldc (v := (67108863 : Int32)) hC.1 hC.2.1 hC.2.2.2.1 (wd9 hC 3 rfl) dX8_readsSet_84 ?_
              refine n_top (y := nI 67108863) (by decide +kernel) ?_
              refine lv_iload_n hC.1 hC.2.1 dX8_readsSet_86 rfl (lv_at hl 1 rfl) ?_
              refine lv_iconst (v := (-1)) hC.1 hC.2.1 dX8_readsSet_87 rfl ?_
              refine lv_ixor hC.1 hC.2.1 dX8_readsSet_88 ?_
              refine lv_iand hC.1 hC.2.1 dX8_readsSet_89 ?_
              refine n_top (y := nI (cmpl st)) (cmpl_e st) ?_
              refine lv_goto (tgt := 94) hC.1 hC.2.1 dX8_readsSet_90 (by decide) ?_
              refine n_top (y := nI (if hereB (m_pad S) (m_padLong S) (m_spot S) 45 45 = true then cmpl st else st)) (by first | rw [if_pos c81] | rw [if_neg (by rw [c81]; decide)]) ?_
              refine join94  _ _ ls  hX (lv_sub hl [0, 1, 2, 3] rfl)
          · skip
            rw [show bN (hereB (m_pad S) (m_padLong S) sp 93 93) = 0 from by rw [c74]; rfl] at hX
            rw [Nat.add_zero] at hX
            replace hX : HH G A s.heap (wM G am (w_spot (S) (sp))) H locs := hX
            refine lv_iconst (v := nI (0)) hC.1 hC.2.1 dX8_readsSet_77 rfl ?_
            refine r_zreturn hC hr hlk hX dX8_readsSet_78 rfl ?_
            first | exact ⟨false, sp, _, _, rfl, rfl, hspm, Or.inr ⟨rfl, setI_nl hI c19 (fun h _ => absurd h (by omega))⟩⟩ | exact ⟨false, sp, _, _, rfl, rfl, hspm, Or.inr ⟨rfl, setI_nl hI c19 (fun _ hs => here_f c74 hs)⟩⟩
      · skip
        refine lv_iload_n hC.1 hC.2.1 dX8_readsSet_22 rfl (lv_at hl 1 rfl) ?_
        refine lv_iconst (v := nI (1)) hC.1 hC.2.1 dX8_readsSet_23 rfl ?_
        refine lv_aload_n hC.1 hC.2.1 dX8_readsSet_24 rfl (lv_at hl 3 rfl) ?_
        have hz19 := of_decide_eq_true c19
        refine g_m_pad hC fi_X8_readsSet_X8 hK hX (wd9 hC 1 rfl) dX8_readsSet_25 ?_
        refine lv_aload_n hC.1 hC.2.1 dX8_readsSet_28 rfl (lv_at hl 3 rfl) ?_
        refine g_m_spot hC fi_X8_readsSet_X8 hK hX (wd9 hC 2 rfl) dX8_readsSet_29 (v := sp) rfl ?_
        refine l_m_pad hC hK hX (i := sp) (by omega) dX8_readsSet_32 (v := m_pad S sp) rfl ?_
        refine lv_bipush (v := nI (97)) hC.1 hC.2.1 dX8_readsSet_33 (by decide +kernel) ?_
        refine n_sub hC (a := m_pad S sp) (b := 97) dX8_readsSet_35 (by omega) ?_
        refine lv_ishl hC.1 hC.2.1 dX8_readsSet_36 ?_
        refine n_top (y := nI (2 ^ (m_pad S sp - 97))) (shl_nI _ (by omega)) ?_
        refine lv_ior hC.1 hC.2.1 dX8_readsSet_37 ?_
        refine n_top (y := nI (st ||| 2 ^ (m_pad S sp - 97))) (nI_or _ _) ?_
        refine lv_istore_n (lv' := [(2, .int (nI (st ||| 2 ^ (m_pad S sp - 97)))), (3, .int (nI (le))), (1, .int (bI (hereB (m_pad S) (m_padLong S) (m_spot S) (45) (45)))), (0, .ref (am 0))]) hC.1 hC.2.1 dX8_readsSet_38 rfl hl (by decide) rfl (fun ls hl => ?_)
        refine lv_aload_n hC.1 hC.2.1 dX8_readsSet_39 rfl (lv_at hl 3 rfl) ?_
        refine g_m_pad hC fi_X8_readsSet_X8 hK hX (wd9 hC 1 rfl) dX8_readsSet_40 ?_
        refine lv_aload_n hC.1 hC.2.1 dX8_readsSet_43 rfl (lv_at hl 3 rfl) ?_
        refine g_m_spot hC fi_X8_readsSet_X8 hK hX (wd9 hC 2 rfl) dX8_readsSet_44 (v := sp) rfl ?_
        refine l_m_pad hC hK hX (i := sp) (by omega) dX8_readsSet_47 (v := m_pad S sp) rfl ?_
        refine lv_iconst (v := nI (1)) hC.1 hC.2.1 dX8_readsSet_48 rfl ?_
        refine n_add hC (a := m_pad S sp) (b := 1) dX8_readsSet_49 ?_
        refine lv_istore_n (lv' := [(3, .int (nI ((m_pad S sp) + (1)))), (2, .int (nI (st ||| 2 ^ (m_pad S sp - 97)))), (1, .int (bI (hereB (m_pad S) (m_padLong S) (m_spot S) (45) (45)))), (0, .ref (am 0))]) hC.1 hC.2.1 dX8_readsSet_50 rfl hl (by decide) rfl (fun ls hl => ?_)
        refine lv_aload_n hC.1 hC.2.1 dX8_readsSet_51 rfl (lv_at hl 3 rfl) ?_
        refine lv_dup hC.1 hC.2.1 dX8_readsSet_52 rfl ?_
        refine g_m_spot hC fi_X8_readsSet_X8 hK hX (wd9 hC 2 rfl) dX8_readsSet_53 (v := sp) rfl ?_
        refine lv_iconst (v := nI (1)) hC.1 hC.2.1 dX8_readsSet_56 rfl ?_
        refine n_add hC (a := sp) (b := 1) dX8_readsSet_57 ?_
        refine p_m_spot hC fi_X8_readsSet_X8 hK hX (v := sp + 1) (wd9 hC 2 rfl) dX8_readsSet_58 (fun H locs hX => ?_)
        replace hX : HH G A s.heap (wM G am (w_spot (S) (sp + 1))) H locs := hX
        refine lv_goto (tgt := 12) hC.1 hC.2.1 dX8_readsSet_61 (by decide) ?_
        refine ih12 (sp + 1) (st ||| 2 ^ (m_pad S sp - 97)) ((m_pad S sp) + (1)) ?_ ?_ ?_ _ _ ls hX (lv_sub hl [0, 1, 2, 3] rfl)
        · exact setI_s hI c19
        · omega
        · have := (of_decide_eq_true c19).1
          omega
  refine loop12 _ (m_spot S + bN (hereB (m_pad S) (m_padLong S) (m_spot S) (45) (45))) (0) (97) ?_ ?_ (Nat.lt_succ_self _) _ _ ls hX (lv_sub hl [0, 1, 2, 3] rfl)
  · exact hsi
  · exact Nat.le_add_right _ _
theorem fi_X8_readsPlace_X8 : ∀ w ∈ wsX80, w ∈ wsX8_readsPlace := by decide +kernel
theorem hd_X8_readsSet : yX8_readsSet.cls = RX8 ∧ yX8_readsSet.cls ≠ "java/lang/invoke/MethodHandle" ∧ yX8_readsSet.cls ≠ "java/lang/invoke/VarHandle" ∧ (parseMethodDescriptor yX8_readsSet.desc).map (fun d => d.parameters.length) = some 0 := by decide +kernel
set_option maxHeartbeats 4000000 in
set_option maxRecDepth 100000 in
theorem c_X8_readsPlace (l : Launch) (G : GX) (am : Nat → Nat) (S : MS) (R0 R : RD) (hpi : plI (m_pad S) R0 R (m_padLong S) (m_spot S) (m_readPlaces S) (m_readTakes S)) (hpl0 : m_padLong S ≤ 60) (hpd0 : ∀ i, m_pad S i < 65536) : CtI l yX8_readsPlace wsX8_readsPlace { frames := 4, cells := 0, slots := 0, locals := 92 } G (wM G am) (S) [.ref (am 0)] (fun r S' => ∃ q sp rp rt, r = bI q ∧ S' = w_readPlaces (w_readTakes (w_spot S sp) rt) rp ∧ m_spot S ≤ sp ∧ ((q = true ∧ m_spot S < sp ∧ rdOK (m_pad S) R0 (m_padLong S) sp rp rt (rd_bound R)) ∨ (q = false ∧ rdBad (m_pad S) R0 (m_padLong S) sp))) 0 0 := by
  refine CtI.of (cc := cX8_readsPlace) (maxL := 1) (ret := some .boolean) (by decide +kernel) rfl (Nat.le_of_ble_eq_true rfl) ?_
  intro p e s m args below meth c ls A hC hr hlk hin hK hA hX hl
  have hl : lv_has ls 1 [(0, .ref (am 0))] := hl
  obtain ⟨e1, hsp0, e3, e4, hrp, hrs, hrt⟩ := id hpi
  refine lv_aload_n hC.1 hC.2.1 dX8_readsPlace_0 rfl (lv_at hl 0 rfl) ?_
  refine lv_bipush (v := nI (91)) hC.1 hC.2.1 dX8_readsPlace_1 (by decide +kernel) ?_
  refine cv_I (As := [.int (nI (91))]) (rest := []) hC hK hA hX (c_X8_takesOne l G am (S) (91) (by decide) hsp0 hpl0 hpd0) (cwV 1 hC.2.2.2.2 gX8_readsPlace_X8_takesOne rfl rfl rfl hd_X8_takesOne ⟨Nat.le_of_ble_eq_true rfl, Nat.le_of_ble_eq_true rfl⟩) (ci := 8) (q := (RX8, TX8, 21)) rfl (q0 := 0) rfl dX8_readsPlace_3 rfl hl.1 rfl (Nat.le_of_ble_eq_true rfl) ⟨(Nat.zero_le _), (Nat.zero_le _)⟩ (fun r9 S9 H locs hp9 hX => ?_)
  obtain ⟨h9, hS9⟩ := hp9
  rw [hS9] at hX
  obtain rfl : r9 = bI (hereB (m_pad S) (m_padLong S) (m_spot S) (91) (91)) := h9
  replace hX : HH G A s.heap (wM G am (w_spot (S) (m_spot S + bN (hereB (m_pad S) (m_padLong S) (m_spot S) (91) (91))))) H locs := hX
  refine b_if_eq hC (b := hereB (m_pad S) (m_padLong S) (m_spot S) (91) (91)) (tgt := 14) dX8_readsPlace_6 (by decide) (fun c6 => ?_) (fun c6 => ?_)
  · skip
    rw [show bN (hereB (m_pad S) (m_padLong S) (m_spot S) 91 91) = 0 from by rw [c6]; rfl] at hX
    rw [Nat.add_zero] at hX
    replace hX : HH G A s.heap (wM G am (w_spot (S) (m_spot S))) H locs := hX
    refine lv_aload_n hC.1 hC.2.1 dX8_readsPlace_14 rfl (lv_at hl 0 rfl) ?_
    refine lv_bipush (v := nI (97)) hC.1 hC.2.1 dX8_readsPlace_15 (by decide +kernel) ?_
    refine lv_bipush (v := nI (122)) hC.1 hC.2.1 dX8_readsPlace_17 (by decide +kernel) ?_
    refine cv_I (As := [.int (nI (97)), .int (nI (122))]) (rest := []) hC hK hA hX (c_X8_isHere l G am (w_spot (S) (m_spot S)) (97) (122) (by decide) (by decide) hsp0 hpl0 hpd0) (cwV 2 hC.2.2.2.2 gX8_readsPlace_X8_isHere rfl rfl rfl hd_X8_isHere ⟨Nat.le_of_ble_eq_true rfl, Nat.le_of_ble_eq_true rfl⟩) (ci := 8) (q := (RX8, TX8, 21)) rfl (q0 := 0) rfl dX8_readsPlace_19 rfl hl.1 rfl (Nat.le_of_ble_eq_true rfl) ⟨(Nat.zero_le _), (Nat.zero_le _)⟩ (fun r9 S9 H locs hp9 hX => ?_)
    obtain ⟨h9, hS9⟩ := hp9
    rw [hS9] at hX
    obtain rfl : r9 = bI (hereB (m_pad S) (m_padLong S) (m_spot S) (97) (122)) := h9
    replace hX : HH G A s.heap (wM G am (w_spot (S) (m_spot S))) H locs := hX
    refine b_if_eq hC (b := hereB (m_pad S) (m_padLong S) (m_spot S) (97) (122)) (tgt := 55) dX8_readsPlace_22 (by decide) (fun c22 => ?_) (fun c22 => ?_)
    · skip
      refine lv_aload_n hC.1 hC.2.1 dX8_readsPlace_55 rfl (lv_at hl 0 rfl) ?_
      refine lv_bipush (v := nI (46)) hC.1 hC.2.1 dX8_readsPlace_56 (by decide +kernel) ?_
      refine cv_I (As := [.int (nI (46))]) (rest := []) hC hK hA hX (c_X8_takesOne l G am (w_spot (S) (m_spot S)) (46) (by decide) hsp0 hpl0 hpd0) (cwV 1 hC.2.2.2.2 gX8_readsPlace_X8_takesOne rfl rfl rfl hd_X8_takesOne ⟨Nat.le_of_ble_eq_true rfl, Nat.le_of_ble_eq_true rfl⟩) (ci := 8) (q := (RX8, TX8, 21)) rfl (q0 := 0) rfl dX8_readsPlace_58 rfl hl.1 rfl (Nat.le_of_ble_eq_true rfl) ⟨(Nat.zero_le _), (Nat.zero_le _)⟩ (fun r9 S9 H locs hp9 hX => ?_)
      obtain ⟨h9, hS9⟩ := hp9
      rw [hS9] at hX
      obtain rfl : r9 = bI (hereB (m_pad S) (m_padLong S) (m_spot S) (46) (46)) := h9
      replace hX : HH G A s.heap (wM G am (w_spot (S) (m_spot S + bN (hereB (m_pad S) (m_padLong S) (m_spot S) (46) (46))))) H locs := hX
      refine b_if_eq hC (b := hereB (m_pad S) (m_padLong S) (m_spot S) (46) (46)) (tgt := 72) dX8_readsPlace_61 (by decide) (fun c61 => ?_) (fun c61 => ?_)
      · skip
        rw [show bN (hereB (m_pad S) (m_padLong S) (m_spot S) 46 46) = 0 from by rw [c61]; rfl] at hX
        rw [Nat.add_zero] at hX
        replace hX : HH G A s.heap (wM G am (w_spot (S) (m_spot S))) H locs := hX
        refine lv_aload_n hC.1 hC.2.1 dX8_readsPlace_72 rfl (lv_at hl 0 rfl) ?_
        refine lv_bipush (v := nI (95)) hC.1 hC.2.1 dX8_readsPlace_73 (by decide +kernel) ?_
        refine cv_I (As := [.int (nI (95))]) (rest := []) hC hK hA hX (c_X8_takesOne l G am (w_spot (S) (m_spot S)) (95) (by decide) hsp0 hpl0 hpd0) (cwV 1 hC.2.2.2.2 gX8_readsPlace_X8_takesOne rfl rfl rfl hd_X8_takesOne ⟨Nat.le_of_ble_eq_true rfl, Nat.le_of_ble_eq_true rfl⟩) (ci := 8) (q := (RX8, TX8, 21)) rfl (q0 := 0) rfl dX8_readsPlace_75 rfl hl.1 rfl (Nat.le_of_ble_eq_true rfl) ⟨(Nat.zero_le _), (Nat.zero_le _)⟩ (fun r9 S9 H locs hp9 hX => ?_)
        obtain ⟨h9, hS9⟩ := hp9
        rw [hS9] at hX
        obtain rfl : r9 = bI (hereB (m_pad S) (m_padLong S) (m_spot S) (95) (95)) := h9
        replace hX : HH G A s.heap (wM G am (w_spot (S) (m_spot S + bN (hereB (m_pad S) (m_padLong S) (m_spot S) (95) (95))))) H locs := hX
        refine b_if_eq hC (b := hereB (m_pad S) (m_padLong S) (m_spot S) (95) (95)) (tgt := 89) dX8_readsPlace_78 (by decide) (fun c78 => ?_) (fun c78 => ?_)
        · skip
          rw [show bN (hereB (m_pad S) (m_padLong S) (m_spot S) 95 95) = 0 from by rw [c78]; rfl] at hX
          rw [Nat.add_zero] at hX
          replace hX : HH G A s.heap (wM G am (w_spot (S) (m_spot S))) H locs := hX
          refine lv_iconst (v := nI (0)) hC.1 hC.2.1 dX8_readsPlace_89 rfl ?_
          refine r_zreturn hC hr hlk hX dX8_readsPlace_90 rfl ?_
          exact ⟨false, _, _, _, rfl, rfl, Nat.le_refl _, Or.inr ⟨rfl, plI_bad hpi c6 c22 c61 c78⟩⟩
        · skip
          rw [show bN (hereB (m_pad S) (m_padLong S) (m_spot S) 95 95) = 1 from by rw [c78]; rfl] at hX
          replace hX : HH G A s.heap (wM G am (w_spot (S) (m_spot S + 1))) H locs := hX
          refine lv_aload_n hC.1 hC.2.1 dX8_readsPlace_81 rfl (lv_at hl 0 rfl) ?_
          refine lv_ldc (v := (67108864 : Int32)) hC.1 hC.2.1 hC.2.2.2.1 (wd9 hC 4 rfl) dX8_readsPlace_82 ?_
          refine n_top (y := nI 67108864) (by decide +kernel) ?_
          have hl1 := (here_t c78).1
          refine cv_V (As := [.int (nI (67108864))]) (rest := []) hC hK hA hX (c_X8_reads l G am (w_spot (S) (m_spot S + 1)) (67108864) (show m_readPlaces S < 60 from by omega)) (cwV 1 hC.2.2.2.2 gX8_readsPlace_X8_reads rfl rfl rfl hd_X8_reads ⟨Nat.le_of_ble_eq_true rfl, Nat.le_of_ble_eq_true rfl⟩) (ci := 8) (q := (RX8, TX8, 21)) rfl (q0 := 0) rfl dX8_readsPlace_84 rfl hl.1 rfl (Nat.le_of_ble_eq_true rfl) ⟨(Nat.zero_le _), (Nat.zero_le _)⟩ (fun S9 H locs hp9 hX => ?_)
          rw [hp9] at hX
          replace hX : HH G A s.heap (wM G am (w_readTakes (w_readPlaces (w_spot (S) (m_spot S + 1)) (m_readPlaces S + 1)) (va_up (m_readTakes S) (m_readPlaces S) (67108864)))) H locs := hX
          refine lv_iconst (v := nI (1)) hC.1 hC.2.1 dX8_readsPlace_87 rfl ?_
          refine r_zreturn hC hr hlk hX dX8_readsPlace_88 rfl ?_
          exact ⟨true, _, _, _, rfl, rfl, by omega, Or.inl ⟨rfl, by omega, plI_us hpi c78⟩⟩
      · skip
        rw [show bN (hereB (m_pad S) (m_padLong S) (m_spot S) 46 46) = 1 from by rw [c61]; rfl] at hX
        replace hX : HH G A s.heap (wM G am (w_spot (S) (m_spot S + 1))) H locs := hX
        refine lv_aload_n hC.1 hC.2.1 dX8_readsPlace_64 rfl (lv_at hl 0 rfl) ?_
        refine lv_ldc (v := (134217727 : Int32)) hC.1 hC.2.1 hC.2.2.2.1 (wd9 hC 3 rfl) dX8_readsPlace_65 ?_
        refine n_top (y := nI 134217727) (by decide +kernel) ?_
        have hl1 := (here_t c61).1
        refine cv_V (As := [.int (nI (134217727))]) (rest := []) hC hK hA hX (c_X8_reads l G am (w_spot (S) (m_spot S + 1)) (134217727) (show m_readPlaces S < 60 from by omega)) (cwV 1 hC.2.2.2.2 gX8_readsPlace_X8_reads rfl rfl rfl hd_X8_reads ⟨Nat.le_of_ble_eq_true rfl, Nat.le_of_ble_eq_true rfl⟩) (ci := 8) (q := (RX8, TX8, 21)) rfl (q0 := 0) rfl dX8_readsPlace_67 rfl hl.1 rfl (Nat.le_of_ble_eq_true rfl) ⟨(Nat.zero_le _), (Nat.zero_le _)⟩ (fun S9 H locs hp9 hX => ?_)
        rw [hp9] at hX
        replace hX : HH G A s.heap (wM G am (w_readTakes (w_readPlaces (w_spot (S) (m_spot S + 1)) (m_readPlaces S + 1)) (va_up (m_readTakes S) (m_readPlaces S) (134217727)))) H locs := hX
        refine lv_iconst (v := nI (1)) hC.1 hC.2.1 dX8_readsPlace_70 rfl ?_
        refine r_zreturn hC hr hlk hX dX8_readsPlace_71 rfl ?_
        exact ⟨true, _, _, _, rfl, rfl, by omega, Or.inl ⟨rfl, by omega, plI_dot hpi c61⟩⟩
    · skip
      obtain ⟨hl1, hl2⟩ := isLet_here c22
      have hl3 := isLet_ge hl2
      refine lv_aload_n hC.1 hC.2.1 dX8_readsPlace_25 rfl (lv_at hl 0 rfl) ?_
      refine lv_iconst (v := nI (1)) hC.1 hC.2.1 dX8_readsPlace_26 rfl ?_
      refine lv_aload_n hC.1 hC.2.1 dX8_readsPlace_27 rfl (lv_at hl 0 rfl) ?_
      refine g_m_pad hC fi_X8_readsPlace_X8 hK hX (wd9 hC 1 rfl) dX8_readsPlace_28 ?_
      refine lv_aload_n hC.1 hC.2.1 dX8_readsPlace_31 rfl (lv_at hl 0 rfl) ?_
      refine g_m_spot hC fi_X8_readsPlace_X8 hK hX (wd9 hC 2 rfl) dX8_readsPlace_32 (v := m_spot S) rfl ?_
      refine l_m_pad hC hK hX (i := m_spot S) (by omega) dX8_readsPlace_35 (v := m_pad S (m_spot S)) rfl ?_
      refine lv_bipush (v := nI (97)) hC.1 hC.2.1 dX8_readsPlace_36 (by decide +kernel) ?_
      refine n_sub hC (a := m_pad S (m_spot S)) (b := 97) dX8_readsPlace_38 (by omega) ?_
      refine lv_ishl hC.1 hC.2.1 dX8_readsPlace_39 ?_
      refine n_top (y := nI (2 ^ (m_pad S (m_spot S) - 97))) (shl_nI _ (by omega)) ?_
      refine cv_V (As := [.int (nI (2 ^ (m_pad S (m_spot S) - 97)))]) (rest := []) hC hK hA hX (c_X8_reads l G am (w_spot (S) (m_spot S)) (2 ^ (m_pad S (m_spot S) - 97)) (show m_readPlaces S < 60 from by omega)) (cwV 1 hC.2.2.2.2 gX8_readsPlace_X8_reads rfl rfl rfl hd_X8_reads ⟨Nat.le_of_ble_eq_true rfl, Nat.le_of_ble_eq_true rfl⟩) (ci := 8) (q := (RX8, TX8, 21)) rfl (q0 := 0) rfl dX8_readsPlace_40 rfl hl.1 rfl (Nat.le_of_ble_eq_true rfl) ⟨(Nat.zero_le _), (Nat.zero_le _)⟩ (fun S9 H locs hp9 hX => ?_)
      rw [hp9] at hX
      replace hX : HH G A s.heap (wM G am (w_readTakes (w_readPlaces (w_spot (S) (m_spot S)) (m_readPlaces S + 1)) (va_up (m_readTakes S) (m_readPlaces S) (2 ^ (m_pad S (m_spot S) - 97))))) H locs := hX
      refine lv_aload_n hC.1 hC.2.1 dX8_readsPlace_43 rfl (lv_at hl 0 rfl) ?_
      refine lv_dup hC.1 hC.2.1 dX8_readsPlace_44 rfl ?_
      refine g_m_spot hC fi_X8_readsPlace_X8 hK hX (wd9 hC 2 rfl) dX8_readsPlace_45 (v := m_spot S) rfl ?_
      refine lv_iconst (v := nI (1)) hC.1 hC.2.1 dX8_readsPlace_48 rfl ?_
      refine n_add hC (a := m_spot S) (b := 1) dX8_readsPlace_49 ?_
      refine p_m_spot hC fi_X8_readsPlace_X8 hK hX (v := (m_spot S) + (1)) (wd9 hC 2 rfl) dX8_readsPlace_50 (fun H locs hX => ?_)
      replace hX : HH G A s.heap (wM G am (w_readTakes (w_readPlaces (w_spot (S) ((m_spot S) + (1))) (m_readPlaces S + 1)) (va_up (m_readTakes S) (m_readPlaces S) (2 ^ (m_pad S (m_spot S) - 97))))) H locs := hX
      refine lv_iconst (v := nI (1)) hC.1 hC.2.1 dX8_readsPlace_53 rfl ?_
      refine r_zreturn hC hr hlk hX dX8_readsPlace_54 rfl ?_
      exact ⟨true, _, _, _, rfl, rfl, by omega, Or.inl ⟨rfl, by omega, plI_let hpi c22⟩⟩
  · skip
    rw [show bN (hereB (m_pad S) (m_padLong S) (m_spot S) 91 91) = 1 from by rw [c6]; rfl] at hX
    replace hX : HH G A s.heap (wM G am (w_spot (S) (m_spot S + 1))) H locs := hX
    obtain ⟨Q, hse, hbq⟩ := plI_set hpi c6
    refine lv_aload_n hC.1 hC.2.1 dX8_readsPlace_9 rfl (lv_at hl 0 rfl) ?_
    refine cv_I (As := []) (rest := []) hC hK hA hX (c_X8_readsSet l G am (w_spot (S) (m_spot S + 1)) R0 Q hse hpl0 hpd0) (cwV 0 hC.2.2.2.2 gX8_readsPlace_X8_readsSet rfl rfl rfl hd_X8_readsSet ⟨Nat.le_of_ble_eq_true rfl, Nat.le_of_ble_eq_true rfl⟩) (ci := 8) (q := (RX8, TX8, 21)) rfl (q0 := 0) rfl dX8_readsPlace_10 rfl hl.1 rfl (Nat.le_of_ble_eq_true rfl) ⟨(Nat.zero_le _), (Nat.zero_le _)⟩ (fun r9 S9 H locs hp9 hX => ?_)
    obtain ⟨q10, sp10, rp10, rt10, h9, hS9, hsq10, hq10⟩ := hp9
    rw [hS9] at hX
    obtain rfl : r9 = bI q10 := h9
    replace hX : HH G A s.heap (wM G am (w_readTakes (w_readPlaces (w_spot (S) (sp10)) (rp10)) (rt10))) H locs := hX
    replace hsq10 : m_spot S + 1 ≤ sp10 := hsq10
    replace hq10 : (q10 = true ∧ m_spot S + 1 < sp10 ∧ rdOK (m_pad S) R0 (m_padLong S) sp10 rp10 rt10 (rd_bound Q)) ∨ (q10 = false ∧ rdBad (m_pad S) R0 (m_padLong S) sp10) := hq10
    refine r_zreturn hC hr hlk hX dX8_readsPlace_13 (nar_bool _) ?_
    refine ⟨q10, sp10, rp10, rt10, rfl, rfl, by omega, ?_⟩
    rcases hq10 with ⟨z1, z2, z3⟩ | ⟨z1, z2⟩
    · exact Or.inl ⟨z1, by omega, by rw [← hbq]; exact z3⟩
    · exact Or.inr ⟨z1, z2⟩
theorem fi_X8_fault_X8 : ∀ w ∈ wsX80, w ∈ wsX8_fault := by decide +kernel
theorem hd_X8_readsPlace : yX8_readsPlace.cls = RX8 ∧ yX8_readsPlace.cls ≠ "java/lang/invoke/MethodHandle" ∧ yX8_readsPlace.cls ≠ "java/lang/invoke/VarHandle" ∧ (parseMethodDescriptor yX8_readsPlace.desc).map (fun d => d.parameters.length) = some 0 := by decide +kernel
set_option maxHeartbeats 4000000 in
set_option maxRecDepth 100000 in
theorem c_X8_fault (l : Launch) (G : GX) (am : Nat → Nat) (S : MS) (R0 : RD) (hm0 : rd_mode R0 = 0) (hc0 : rd_cnt R0 = 0) (hb0 : rd_bound R0 = false) (hpl0 : m_padLong S ≤ 60) (hpd0 : ∀ i, m_pad S i < 65536) : CtI l yX8_fault wsX8_fault { frames := 5, cells := 0, slots := 0, locals := 112 } G (wM G am) (S) [.ref (am 0)] (fun r S' => ∃ sp rp rt bd, S' = w_readBound (w_readPlaces (w_readTakes (w_spot S sp) rt) rp) (bN bd) ∧ ((r = -5 ∧ rdOK (m_pad S) R0 (m_padLong S) (m_padLong S) rp rt bd) ∨ (r = nI sp ∧ sp ≤ m_padLong S ∧ rdBad (m_pad S) R0 (m_padLong S) sp))) 0 0 := by
  refine CtI.of (cc := cX8_fault) (maxL := 2) (ret := some .int) (by decide +kernel) rfl (Nat.le_of_ble_eq_true rfl) ?_
  intro p e s m args below meth c ls A hC hr hlk hin hK hA hX hl
  have hl : lv_has ls 2 [(0, .ref (am 0))] := hl
  refine lv_aload_n hC.1 hC.2.1 dX8_fault_0 rfl (lv_at hl 0 rfl) ?_
  refine lv_iconst (v := nI (0)) hC.1 hC.2.1 dX8_fault_1 rfl ?_
  refine p_m_spot hC fi_X8_fault_X8 hK hX (v := 0) (wd9 hC 1 rfl) dX8_fault_2 (fun H locs hX => ?_)
  replace hX : HH G A s.heap (wM G am (w_spot (S) (0))) H locs := hX
  refine lv_aload_n hC.1 hC.2.1 dX8_fault_5 rfl (lv_at hl 0 rfl) ?_
  refine lv_iconst (v := nI (0)) hC.1 hC.2.1 dX8_fault_6 rfl ?_
  refine p_m_readPlaces hC fi_X8_fault_X8 hK hX (v := 0) (wd9 hC 2 rfl) dX8_fault_7 (fun H locs hX => ?_)
  replace hX : HH G A s.heap (wM G am (w_readPlaces (w_spot (S) (0)) (0))) H locs := hX
  refine lv_aload_n hC.1 hC.2.1 dX8_fault_10 rfl (lv_at hl 0 rfl) ?_
  refine lv_aload_n hC.1 hC.2.1 dX8_fault_11 rfl (lv_at hl 0 rfl) ?_
  refine lv_bipush (v := nI (94)) hC.1 hC.2.1 dX8_fault_12 (by decide +kernel) ?_
  refine cv_I (As := [.int (nI (94))]) (rest := [.ref (am 0)]) hC hK hA hX (c_X8_takesOne l G am (w_readPlaces (w_spot (S) (0)) (0)) (94) (by decide) (Nat.zero_le _) hpl0 hpd0) (cwV 1 hC.2.2.2.2 gX8_fault_X8_takesOne rfl rfl rfl hd_X8_takesOne ⟨Nat.le_of_ble_eq_true rfl, Nat.le_of_ble_eq_true rfl⟩) (ci := 8) (q := (RX8, TX8, 21)) rfl (q0 := 0) rfl dX8_fault_14 rfl hl.1 rfl (Nat.le_of_ble_eq_true rfl) ⟨(Nat.zero_le _), (Nat.zero_le _)⟩ (fun r9 S9 H locs hp9 hX => ?_)
  obtain ⟨h9, hS9⟩ := hp9
  rw [hS9] at hX
  obtain rfl : r9 = bI (hereB (m_pad S) (m_padLong S) (0) (94) (94)) := h9
  replace hX : HH G A s.heap (wM G am (w_readPlaces (w_spot (S) (0 + bN (hereB (m_pad S) (m_padLong S) (0) (94) (94)))) (0))) H locs := hX
  have join25 : ∀ (H : Heap) (locs : List Loc) (ls : Array Slot), HH G A s.heap (wM G am (w_readPlaces (w_spot (S) (0 + bN (hereB (m_pad S) (m_padLong S) (0) (94) (94)))) (0))) H locs → lv_has ls 2 [(0, .ref (am 0))] → W p l e { frames := 5, cells := 0, slots := 0, locals := 112 } s m args below meth c H locs 0 0 (EndI G (wM G am) A (fun r S' => ∃ sp rp rt bd, S' = w_readBound (w_readPlaces (w_readTakes (w_spot S sp) rt) rp) (bN bd) ∧ ((r = -5 ∧ rdOK (m_pad S) R0 (m_padLong S) (m_padLong S) rp rt bd) ∨ (r = nI sp ∧ sp ≤ m_padLong S ∧ rdBad (m_pad S) R0 (m_padLong S) sp))) below args s 0 0) (F0 m 25 ls [.int (nI (bN (hereB (m_pad S) (m_padLong S) 0 94 94))), .ref (am 0)]) := by
    intro  H locs ls  hX hl
    refine p_m_readBound hC fi_X8_fault_X8 hK hX (v := bN (hereB (m_pad S) (m_padLong S) 0 94 94)) (wd9 hC 3 rfl) dX8_fault_25 (fun H locs hX => ?_)
    replace hX : HH G A s.heap (wM G am (w_readPlaces (w_readBound (w_spot (S) (0 + bN (hereB (m_pad S) (m_padLong S) (0) (94) (94)))) (bN (hereB (m_pad S) (m_padLong S) 0 94 94))) (0))) H locs := hX
    obtain ⟨R, hpi, hbR⟩ := plI_0 (t := m_pad S) (n := m_padLong S) hm0 hc0 hb0 (m_readTakes S)
    refine lv_aload_n hC.1 hC.2.1 dX8_fault_28 rfl (lv_at hl 0 rfl) ?_
    refine cv_I (As := []) (rest := []) hC hK hA hX (c_X8_readsPlace l G am (w_readPlaces (w_readBound (w_spot (S) (0 + bN (hereB (m_pad S) (m_padLong S) (0) (94) (94)))) (bN (hereB (m_pad S) (m_padLong S) 0 94 94))) (0)) R0 R hpi hpl0 hpd0) (cwV 0 hC.2.2.2.2 gX8_fault_X8_readsPlace rfl rfl rfl hd_X8_readsPlace ⟨Nat.le_of_ble_eq_true rfl, Nat.le_of_ble_eq_true rfl⟩) (ci := 8) (q := (RX8, TX8, 21)) rfl (q0 := 0) rfl dX8_fault_29 rfl hl.1 rfl (Nat.le_of_ble_eq_true rfl) ⟨(Nat.zero_le _), (Nat.zero_le _)⟩ (fun r9 S9 H locs hp9 hX => ?_)
    obtain ⟨q29, sp29, rp29, rt29, h9, hS9, hsq29, hq29⟩ := hp9
    rw [hS9] at hX
    obtain rfl : r9 = bI q29 := h9
    replace hX : HH G A s.heap (wM G am (w_readTakes (w_readPlaces (w_readBound (w_spot (S) (sp29)) (bN (hereB (m_pad S) (m_padLong S) 0 94 94))) (rp29)) (rt29))) H locs := hX
    replace hsq29 : 0 + bN (hereB (m_pad S) (m_padLong S) (0) (94) (94)) ≤ sp29 := hsq29
    replace hq29 : (q29 = true ∧ 0 + bN (hereB (m_pad S) (m_padLong S) (0) (94) (94)) < sp29 ∧ rdOK (m_pad S) R0 (m_padLong S) sp29 rp29 rt29 (rd_bound R)) ∨ (q29 = false ∧ rdBad (m_pad S) R0 (m_padLong S) sp29) := hq29
    have hQ29 : (q29 = true ∧ 0 < sp29 ∧ rdOK (m_pad S) R0 (m_padLong S) sp29 rp29 rt29 (hereB (m_pad S) (m_padLong S) 0 94 94)) ∨ (q29 = false ∧ rdBad (m_pad S) R0 (m_padLong S) sp29) := by
      rcases hq29 with ⟨z1, z2, z3⟩ | ⟨z1, z2⟩
      · exact Or.inl ⟨z1, Nat.lt_of_le_of_lt (Nat.zero_le _) z2, by rw [← hbR]; exact z3⟩
      · exact Or.inr ⟨z1, z2⟩
    refine lv_istore_n (lv' := [(1, .int (bI (q29))), (0, .ref (am 0))]) hC.1 hC.2.1 dX8_fault_32 rfl hl (by decide) rfl (fun ls hl => ?_)
    have loop33 : ∀ (n9 : Nat) (q : Bool) (sp : Nat) (rp : Nat) (rt : Nat → Nat), ((q = true ∧ 0 < sp ∧ rdOK (m_pad S) R0 (m_padLong S) sp rp rt (hereB (m_pad S) (m_padLong S) 0 94 94)) ∨ (q = false ∧ rdBad (m_pad S) R0 (m_padLong S) sp)) → 2 * (m_padLong S - sp) + bN q < n9 → ∀ (H : Heap) (locs : List Loc) (ls : Array Slot), HH G A s.heap (wM G am (w_readTakes (w_readPlaces (w_readBound (w_spot (S) (sp)) (bN (hereB (m_pad S) (m_padLong S) 0 94 94))) (rp)) (rt))) H locs → lv_has ls 2 [(1, .int (bI (q))), (0, .ref (am 0))] → W p l e { frames := 5, cells := 0, slots := 0, locals := 112 } s m args below meth c H locs 0 0 (EndI G (wM G am) A (fun r S' => ∃ sp rp rt bd, S' = w_readBound (w_readPlaces (w_readTakes (w_spot S sp) rt) rp) (bN bd) ∧ ((r = -5 ∧ rdOK (m_pad S) R0 (m_padLong S) (m_padLong S) rp rt bd) ∨ (r = nI sp ∧ sp ≤ m_padLong S ∧ rdBad (m_pad S) R0 (m_padLong S) sp))) below args s 0 0) (F0 m 33 ls []) := by
      intro n9
      induction n9 with
      | zero => intro q sp rp rt hq hn9; exact absurd hn9 (Nat.not_lt_zero _)
      | succ n9 ih33 =>
        intro q sp rp rt hq hn9 H locs ls hX hl
        have hspl : sp ≤ m_padLong S := by
          rcases hq with ⟨z1, z2, z3⟩ | ⟨z1, z2⟩
          · exact (rdOK_le z3).1
          · exact rdBad_le z2
        have hbq := bN_le q
        refine lv_iload_n hC.1 hC.2.1 dX8_fault_33 rfl (lv_at hl 0 rfl) ?_
        refine b_if_eq hC (b := q) (tgt := 56) dX8_fault_34 (by decide) (fun c34 => ?_) (fun c34 => ?_)
        · skip
          refine lv_iload_n hC.1 hC.2.1 dX8_fault_56 rfl (lv_at hl 0 rfl) ?_
          refine b_if_eq hC (b := q) (tgt := 65) dX8_fault_57 (by decide) (fun c57 => ?_) (fun c57 => ?_)
          · skip
            refine lv_aload_n hC.1 hC.2.1 dX8_fault_65 rfl (lv_at hl 1 rfl) ?_
            refine g_m_spot hC fi_X8_fault_X8 hK hX (wd9 hC 1 rfl) dX8_fault_66 (v := sp) rfl ?_
            refine r_ireturn hC hr hlk hX dX8_fault_69 ?_
            refine ⟨sp, rp, rt, hereB (m_pad S) (m_padLong S) 0 94 94, rfl, ?_⟩
            rcases hq with ⟨z1, z2, z3⟩ | ⟨z1, z2⟩
            · first | exact Or.inl ⟨rfl, rdOK_n z3 (by omega)⟩ | (rw [z1] at c57; exact absurd c57 (by decide)) | (rw [z1] at c34; exact absurd c34 (by decide))
            · first | exact Or.inr ⟨rfl, hspl, z2⟩ | (rw [z1] at c57; exact absurd c57 (by decide))
          · skip
            refine lv_bipush (v := (-5)) hC.1 hC.2.1 dX8_fault_60 (by decide +kernel) ?_
            refine lv_goto (tgt := 69) hC.1 hC.2.1 dX8_fault_62 (by decide) ?_
            refine r_ireturn hC hr hlk hX dX8_fault_69 ?_
            refine ⟨sp, rp, rt, hereB (m_pad S) (m_padLong S) 0 94 94, rfl, ?_⟩
            rcases hq with ⟨z1, z2, z3⟩ | ⟨z1, z2⟩
            · first | exact Or.inl ⟨rfl, rdOK_n z3 (by omega)⟩ | (rw [z1] at c57; exact absurd c57 (by decide)) | (rw [z1] at c34; exact absurd c34 (by decide))
            · first | exact Or.inr ⟨rfl, hspl, z2⟩ | (rw [z1] at c57; exact absurd c57 (by decide))
        · skip
          refine lv_aload_n hC.1 hC.2.1 dX8_fault_37 rfl (lv_at hl 1 rfl) ?_
          refine g_m_spot hC fi_X8_fault_X8 hK hX (wd9 hC 1 rfl) dX8_fault_38 (v := sp) rfl ?_
          refine lv_aload_n hC.1 hC.2.1 dX8_fault_41 rfl (lv_at hl 1 rfl) ?_
          refine g_m_padLong hC fi_X8_fault_X8 hK hX (wd9 hC 4 rfl) dX8_fault_42 (v := m_padLong S) rfl ?_
          refine n_icmp_ge hC (a := sp) (b := m_padLong S) (tgt := 56) dX8_fault_45 (by decide) (by omega) (by omega) (fun c45 => ?_) (fun c45 => ?_)
          · skip
            refine lv_iload_n hC.1 hC.2.1 dX8_fault_56 rfl (lv_at hl 0 rfl) ?_
            refine b_if_eq hC (b := q) (tgt := 65) dX8_fault_57 (by decide) (fun c57 => ?_) (fun c57 => ?_)
            · skip
              refine lv_aload_n hC.1 hC.2.1 dX8_fault_65 rfl (lv_at hl 1 rfl) ?_
              refine g_m_spot hC fi_X8_fault_X8 hK hX (wd9 hC 1 rfl) dX8_fault_66 (v := sp) rfl ?_
              refine r_ireturn hC hr hlk hX dX8_fault_69 ?_
              refine ⟨sp, rp, rt, hereB (m_pad S) (m_padLong S) 0 94 94, rfl, ?_⟩
              rcases hq with ⟨z1, z2, z3⟩ | ⟨z1, z2⟩
              · first | exact Or.inl ⟨rfl, rdOK_n z3 (by omega)⟩ | (rw [z1] at c57; exact absurd c57 (by decide)) | (rw [z1] at c34; exact absurd c34 (by decide))
              · first | exact Or.inr ⟨rfl, hspl, z2⟩ | (rw [z1] at c57; exact absurd c57 (by decide))
            · skip
              refine lv_bipush (v := (-5)) hC.1 hC.2.1 dX8_fault_60 (by decide +kernel) ?_
              refine lv_goto (tgt := 69) hC.1 hC.2.1 dX8_fault_62 (by decide) ?_
              refine r_ireturn hC hr hlk hX dX8_fault_69 ?_
              refine ⟨sp, rp, rt, hereB (m_pad S) (m_padLong S) 0 94 94, rfl, ?_⟩
              rcases hq with ⟨z1, z2, z3⟩ | ⟨z1, z2⟩
              · first | exact Or.inl ⟨rfl, rdOK_n z3 (by omega)⟩ | (rw [z1] at c57; exact absurd c57 (by decide)) | (rw [z1] at c34; exact absurd c34 (by decide))
              · first | exact Or.inr ⟨rfl, hspl, z2⟩ | (rw [z1] at c57; exact absurd c57 (by decide))
          · skip
            have hq9 : q = true := c34
            obtain ⟨R9, hpi, hbR9⟩ : ∃ R, plI (m_pad S) R0 R (m_padLong S) sp rp rt ∧ rd_bound R = hereB (m_pad S) (m_padLong S) 0 94 94 := by
              rcases hq with ⟨z1, z2, z3⟩ | ⟨z1, z2⟩
              · exact plI_of z3 (by omega)
              · rw [z1] at hq9; exact absurd hq9 (by decide)
            refine lv_aload_n hC.1 hC.2.1 dX8_fault_48 rfl (lv_at hl 1 rfl) ?_
            refine cv_I (As := []) (rest := []) hC hK hA hX (c_X8_readsPlace l G am (w_readTakes (w_readPlaces (w_readBound (w_spot (S) (sp)) (bN (hereB (m_pad S) (m_padLong S) 0 94 94))) (rp)) (rt)) R0 R9 hpi hpl0 hpd0) (cwV 0 hC.2.2.2.2 gX8_fault_X8_readsPlace rfl rfl rfl hd_X8_readsPlace ⟨Nat.le_of_ble_eq_true rfl, Nat.le_of_ble_eq_true rfl⟩) (ci := 8) (q := (RX8, TX8, 21)) rfl (q0 := 0) rfl dX8_fault_49 rfl hl.1 rfl (Nat.le_of_ble_eq_true rfl) ⟨(Nat.zero_le _), (Nat.zero_le _)⟩ (fun r9 S9 H locs hp9 hX => ?_)
            obtain ⟨q49, sp49, rp49, rt49, h9, hS9, hsq49, hq49⟩ := hp9
            rw [hS9] at hX
            obtain rfl : r9 = bI q49 := h9
            replace hX : HH G A s.heap (wM G am (w_readTakes (w_readPlaces (w_readBound (w_spot (S) (sp49)) (bN (hereB (m_pad S) (m_padLong S) 0 94 94))) (rp49)) (rt49))) H locs := hX
            replace hsq49 : sp ≤ sp49 := hsq49
            replace hq49 : (q49 = true ∧ sp < sp49 ∧ rdOK (m_pad S) R0 (m_padLong S) sp49 rp49 rt49 (rd_bound R9)) ∨ (q49 = false ∧ rdBad (m_pad S) R0 (m_padLong S) sp49) := hq49
            refine lv_istore_n (lv' := [(1, .int (bI (q49))), (0, .ref (am 0))]) hC.1 hC.2.1 dX8_fault_52 rfl hl (by decide) rfl (fun ls hl => ?_)
            refine lv_goto (tgt := 33) hC.1 hC.2.1 dX8_fault_53 (by decide) ?_
            refine ih33 (q49) (sp49) (rp49) (rt49) ?_ ?_ _ _ ls hX (lv_sub hl [0, 1] rfl)
            · rcases hq49 with ⟨z1, z2, z3⟩ | ⟨z1, z2⟩
              · exact Or.inl ⟨z1, Nat.lt_of_le_of_lt (Nat.zero_le _) z2, by rw [← hbR9]; exact z3⟩
              · exact Or.inr ⟨z1, z2⟩
            · rw [hq9] at hn9
              rcases hq49 with ⟨z1, z2, z3⟩ | ⟨z1, z2⟩
              · have z4 := (rdOK_le z3).1
                have z5 : sp < sp49 := z2
                have z6 := bN_le q49
                have z7 : bN true = 1 := rfl
                omega
              · have z4 := rdBad_le z2
                have z5 : sp ≤ sp49 := hsq49
                have z6 : bN q49 = 0 := by rw [z1]; rfl
                have z7 : bN true = 1 := rfl
                omega
    refine loop33 _ (q29) (sp29) (rp29) (rt29) ?_ (Nat.lt_succ_self _) _ _ ls hX (lv_sub hl [0, 1] rfl)
    · exact hQ29
  refine b_if_eq hC (b := hereB (m_pad S) (m_padLong S) (0) (94) (94)) (tgt := 24) dX8_fault_17 (by decide) (fun c17 => ?_) (fun c17 => ?_)
  · skip
    refine lv_iconst (v := nI (0)) hC.1 hC.2.1 dX8_fault_24 rfl ?_
    refine n_top (y := nI (bN (hereB (m_pad S) (m_padLong S) 0 94 94))) (by first | (rw [c17]; rfl)) ?_
    refine join25  _ _ ls  hX (lv_sub hl [0] rfl)
  · skip
    refine lv_iconst (v := nI (1)) hC.1 hC.2.1 dX8_fault_20 rfl ?_
    refine lv_goto (tgt := 25) hC.1 hC.2.1 dX8_fault_21 (by decide) ?_
    refine n_top (y := nI (bN (hereB (m_pad S) (m_padLong S) 0 94 94))) (by first | (rw [c17]; rfl)) ?_
    refine join25  _ _ ls  hX (lv_sub hl [0] rfl)
