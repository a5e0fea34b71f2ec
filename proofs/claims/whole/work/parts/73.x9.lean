set_option maxHeartbeats 4000000 in
set_option maxRecDepth 100000 in
theorem c_Jxf58ca_isNaN_12338 (l : Launch) (G : GX) (m0 : Nat) (hm0 : m0 < 2139095040) : CtI l yJxf58ca_isNaN_12338 wsJxf58ca_isNaN_12338 { frames := 0, cells := 0, slots := 0, locals := 0 } G wP (()) [.float (fb m0)] (fun r _ => r = nI 0) 0 0 := by
  refine CtI.ofF (cc := cJxf58ca_isNaN_12338) (maxL := 1) (ret := some .boolean) (by decide +kernel) rfl (Nat.le_of_ble_eq_true rfl) ?_
  intro p e s m args below meth c ls A hC hr hlk hin hK hA hX hl
  have hl : lv_has ls 1 [(0, .float (fb m0))] := hl
  refine lv_fload_n hC.1 hC.2.1 dJxf58ca_isNaN_12338_0 rfl (lv_at hl 0 rfl) ?_
  refine lv_fload_n hC.1 hC.2.1 dJxf58ca_isNaN_12338_1 rfl (lv_at hl 0 rfl) ?_
  refine lv_fcmp hC.1 hC.2.1 dJxf58ca_isNaN_12338_2 ?_
  refine n_top (y := nI (0)) (fb_self hm0) ?_
  refine n_if_eq hC (a := 0) (tgt := 10) dJxf58ca_isNaN_12338_3 (by decide) (by decide) (fun c3 => ?_) (fun c3 => absurd c3 (by decide))
  refine lv_iconst (v := nI (0)) hC.1 hC.2.1 dJxf58ca_isNaN_12338_10 rfl ?_
  refine r_zreturn hC hr hlk hX dJxf58ca_isNaN_12338_11 rfl ?_
  exact rfl
theorem hd_Jxf58ca_isNaN_12338_s : yJxf58ca_isNaN_12338.cls ≠ "java/lang/invoke/MethodHandle" ∧ yJxf58ca_isNaN_12338.cls ≠ "java/lang/invoke/VarHandle" ∧ (parseMethodDescriptor yJxf58ca_isNaN_12338.desc).map (fun d => d.parameters.length) = some 1 := by decide +kernel
set_option maxHeartbeats 4000000 in
set_option maxRecDepth 100000 in
theorem c_Jxf58ca_floatToIntBits_5c35a (l : Launch) (G : GX) (m0 : Nat) (hm0 : m0 < 2139095040) : CtI l yJxf58ca_floatToIntBits_5c35a wsJxf58ca_floatToIntBits_5c35a { frames := 1, cells := 0, slots := 0, locals := 32 } G wP (()) [.float (fb m0)] (fun r _ => r = nI m0) 0 0 := by
  refine CtI.ofF (cc := cJxf58ca_floatToIntBits_5c35a) (maxL := 1) (ret := some .int) (by decide +kernel) rfl (Nat.le_of_ble_eq_true rfl) ?_
  intro p e s m args below meth c ls A hC hr hlk hin hK hA hX hl
  have hl : lv_has ls 1 [(0, .float (fb m0))] := hl
  refine lv_fload_n hC.1 hC.2.1 dJxf58ca_floatToIntBits_5c35a_0 rfl (lv_at hl 0 rfl) ?_
  refine ps_I (As := [.float (fb m0)]) (rest := []) hC hK hA hX (c_Jxf58ca_isNaN_12338 l G m0 hm0) (va_cwS 1 hC.2.2.2.2 gJxf58ca_floatToIntBits_5c35a_Jxf58ca_isNaN_12338 rfl rfl rfl hd_Jxf58ca_isNaN_12338_s ⟨Nat.le_of_ble_eq_true rfl, Nat.le_of_ble_eq_true rfl⟩) dJxf58ca_floatToIntBits_5c35a_1 rfl hl.1 rfl (Nat.le_of_ble_eq_true rfl) ⟨(Nat.zero_le _), (Nat.zero_le _)⟩ (fun r9 S9 H locs hp9 hX => ?_)
  obtain rfl := hp9
  replace hX : HH G A s.heap (wP ()) H locs := hX
  refine n_if_ne hC (a := 0) (tgt := 12) dJxf58ca_floatToIntBits_5c35a_4 (by decide) (by decide) (fun c4 => absurd c4 (by decide)) (fun c4 => ?_)
  refine lv_fload_n hC.1 hC.2.1 dJxf58ca_floatToIntBits_5c35a_7 rfl (lv_at hl 0 rfl) ?_
  refine vn_f2i hC.1 hC.2.1 (hC.2.2.1.trans hl.1.symm) hC.2.2.2.1 (wd9 hC 1 rfl) (wd9 hC 2 rfl) (wd9 hC 3 rfl) (wd9 hC 4 rfl) (Nat.le_of_ble_eq_true rfl) (Nat.le_of_ble_eq_true rfl) dJxf58ca_floatToIntBits_5c35a_8 ?_
  refine n_top (y := nI (m0)) (fb_int m0) ?_
  refine r_ireturn hC hr hlk hX dJxf58ca_floatToIntBits_5c35a_11 ?_
  exact rfl
set_option maxHeartbeats 4000000 in
set_option maxRecDepth 100000 in
theorem c_X7_bitsOfFloat (l : Launch) (G : GX) (m0 : Nat) (hm0 : m0 = 0 ∨ (981467136 ≤ m0 ∧ m0 ≤ 1065353216)) : CtI l yX7_bitsOfFloat wsX7_bitsOfFloat { frames := 0, cells := 0, slots := 0, locals := 0 } G wP (()) [.float (fb m0)] (fun r _ => r = nI m0) 0 0 := by
  refine CtI.of (cc := cX7_bitsOfFloat) (maxL := 3) (ret := some .int) (by decide +kernel) rfl (Nat.le_of_ble_eq_true rfl) ?_
  intro p e s m args below meth c ls A hC hr hlk hin hK hA hX hl
  have hl : lv_has ls 3 [(0, .float (fb m0))] := hl
  refine lv_fload_n hC.1 hC.2.1 dX7_bitsOfFloat_0 rfl (lv_at hl 0 rfl) ?_
  refine lv_fconst0 hC.1 hC.2.1 dX7_bitsOfFloat_1 ?_
  refine lv_fcmp hC.1 hC.2.1 dX7_bitsOfFloat_2 ?_
  rcases hm0 with hz | hz
  · subst hz
    refine n_top (y := nI (0)) (by rw [(fb_cmp0 (m := 0) (by decide)).1 rfl]; rfl) ?_
    refine n_if_gt hC (a := 0) (tgt := 8) dX7_bitsOfFloat_3 (by decide) (by decide) (fun c3 => absurd c3 (by decide)) (fun c3 => ?_)
    refine lv_iconst (v := nI (0)) hC.1 hC.2.1 dX7_bitsOfFloat_6 rfl ?_
    refine r_ireturn hC hr hlk hX dX7_bitsOfFloat_7 ?_
    exact rfl
  · skip
    refine n_top (y := nI (1)) (by rw [(fb_cmp0 (m := m0) (by omega)).2 (by omega)]; rfl) ?_
    refine n_if_gt hC (a := 1) (tgt := 8) dX7_bitsOfFloat_3 (by decide) (by decide) (fun c3 => ?_) (fun c3 => absurd c3 (by decide))
    refine lv_fload_n hC.1 hC.2.1 dX7_bitsOfFloat_8 rfl (lv_at hl 0 rfl) ?_
    refine lv_fstore_n (lv' := [(1, .float (fb m0)), (0, .float (fb m0))]) hC.1 hC.2.1 dX7_bitsOfFloat_9 rfl hl (by decide) rfl (fun ls hl => ?_)
    refine lv_bipush (v := nI (127)) hC.1 hC.2.1 dX7_bitsOfFloat_10 (by decide +kernel) ?_
    refine lv_istore_n (lv' := [(2, .int (nI (127))), (1, .float (fb m0)), (0, .float (fb m0))]) hC.1 hC.2.1 dX7_bitsOfFloat_12 rfl hl (by decide) rfl (fun ls hl => ?_)
    have loop13 : ∀ (n9 : Nat) (mm : Nat) (ex : Nat), (mm + 8388608 * ex = m0 + 1065353216) → (ex ≤ 127) → (mm < 1073741824) → (981467136 ≤ mm) → ex < n9 → ∀ (H : Heap) (locs : List Loc) (ls : Array Slot), HH G A s.heap (wP ()) H locs → lv_has ls 3 [(2, .int (nI (ex))), (1, .float (fb mm)), (0, .float (fb m0))] → W p l e { frames := 0, cells := 0, slots := 0, locals := 0 } s m args below meth c H locs 0 0 (EndI G wP A (fun r _ => r = nI m0) below args s 0 0) (F0 m 13 ls []) := by
      intro n9
      induction n9 with
      | zero => intro mm ex hA9 hB9 hC9 hD9 hn9; exact absurd hn9 (Nat.not_lt_zero _)
      | succ n9 ih13 =>
        intro mm ex hA9 hB9 hC9 hD9 hn9 H locs ls hX hl
        refine lv_fload_n hC.1 hC.2.1 dX7_bitsOfFloat_13 rfl (lv_at hl 1 rfl) ?_
        refine lv_fconst1 hC.1 hC.2.1 dX7_bitsOfFloat_14 ?_
        refine lv_fcmp hC.1 hC.2.1 dX7_bitsOfFloat_15 ?_
        rcases (show mm < 1065353216 ∨ mm = 1065353216 ∨ 1065353216 < mm by omega) with hz9 | hz9 | hz9
        · skip
          refine n_top (y := (-1)) (by rw [(fb_cmp1 (m := mm) (by omega)).1 hz9]; rfl) ?_
          refine lv_if_ge hC.1 hC.2.1 (x := (-1)) (tgt := 34) dX7_bitsOfFloat_16 (by decide) (fun c16 => by first | exact absurd c16 (by decide) | exact absurd (by decide) c16) (fun c16 => ?_)
          refine lv_iload_n hC.1 hC.2.1 dX7_bitsOfFloat_19 rfl (lv_at hl 0 rfl) ?_
          refine lv_iconst (v := nI (1)) hC.1 hC.2.1 dX7_bitsOfFloat_20 rfl ?_
          refine n_icmp_le hC (a := ex) (b := 1) (tgt := 34) dX7_bitsOfFloat_21 (by decide) (by omega) (by decide) (fun c21 => ?_) (fun c21 => ?_)
          · omega
          · skip
            refine lv_fload_n hC.1 hC.2.1 dX7_bitsOfFloat_24 rfl (lv_at hl 1 rfl) ?_
            refine lv_fconst2 hC.1 hC.2.1 dX7_bitsOfFloat_25 ?_
            refine lv_fmul hC.1 hC.2.1 dX7_bitsOfFloat_26 (by rw [fb_mul2 (by omega) (by omega)]; exact vf32_of (FP.Core.FFin.notNaN (fb_fin (by omega)))) ?_
            refine n_topf (y := fb (mm + 8388608)) (fb_mul2 (by omega) (by omega)) ?_
            refine lv_fstore_n (lv' := [(1, .float (fb (mm + 8388608))), (2, .int (nI (ex))), (0, .float (fb m0))]) hC.1 hC.2.1 dX7_bitsOfFloat_27 rfl hl (by decide) rfl (fun ls hl => ?_)
            refine lv_iinc (v := nI (ex - 1)) (lv' := [(2, .int (nI (ex - 1))), (1, .float (fb (mm + 8388608))), (0, .float (fb m0))]) hC.1 hC.2.1 dX7_bitsOfFloat_28 hl (k := 1) rfl (n_dec1 (by omega)) (by decide) rfl (fun ls hl => ?_)
            refine lv_goto (tgt := 13) hC.1 hC.2.1 dX7_bitsOfFloat_31 (by decide) ?_
            refine ih13 (mm + 8388608) (ex - 1) ?_ ?_ ?_ ?_ ?_ _ _ ls hX (lv_sub hl [0, 1, 2] rfl)
            · omega
            · omega
            · omega
            · omega
            · omega
        · skip
          refine n_top (y := nI (0)) (by rw [(fb_cmp1 (m := mm) (by omega)).2.1 hz9]; rfl) ?_
          refine n_if_ge hC (a := 0) (tgt := 34) dX7_bitsOfFloat_16 (by decide) (by omega) ?_
          refine lv_iload_n hC.1 hC.2.1 dX7_bitsOfFloat_34 rfl (lv_at hl 0 rfl) ?_
          refine lv_bipush (v := nI (23)) hC.1 hC.2.1 dX7_bitsOfFloat_35 (by decide +kernel) ?_
          refine lv_ishl hC.1 hC.2.1 dX7_bitsOfFloat_37 ?_
          refine n_top (y := nI (ex * 8388608)) (shl23 _ (by omega)) ?_
          refine lv_fload_n hC.1 hC.2.1 dX7_bitsOfFloat_38 rfl (lv_at hl 1 rfl) ?_
          refine lv_fconst1 hC.1 hC.2.1 dX7_bitsOfFloat_39 ?_
          refine lv_fsub hC.1 hC.2.1 dX7_bitsOfFloat_40 (vf32_of (fb_frac (m := mm) (by omega) (by omega)).1) ?_
          refine lv_ldcf (v := (1258291200 : UInt32)) hC.1 hC.2.1 hC.2.2.2.1 (wd9 hC 1 rfl) dX7_bitsOfFloat_41 ?_
          refine lv_fmul hC.1 hC.2.1 dX7_bitsOfFloat_43 (vf32_of (fb_frac (m := mm) (by omega) (by omega)).2.1) ?_
          refine lv_f2i hC.1 hC.2.1 dX7_bitsOfFloat_44 ?_
          refine n_top (y := nI (mm - 1065353216)) (fb_frac (m := mm) (by omega) (by omega)).2.2 ?_
          refine n_add hC (a := ex * 8388608) (b := mm - 1065353216) dX7_bitsOfFloat_45 ?_
          refine r_ireturn hC hr hlk hX dX7_bitsOfFloat_46 ?_
          exact congrArg nI (by omega)
        · skip
          refine n_top (y := nI (1)) (by rw [(fb_cmp1 (m := mm) (by omega)).2.2 hz9]; rfl) ?_
          refine n_if_ge hC (a := 1) (tgt := 34) dX7_bitsOfFloat_16 (by decide) (by omega) ?_
          refine lv_iload_n hC.1 hC.2.1 dX7_bitsOfFloat_34 rfl (lv_at hl 0 rfl) ?_
          refine lv_bipush (v := nI (23)) hC.1 hC.2.1 dX7_bitsOfFloat_35 (by decide +kernel) ?_
          refine lv_ishl hC.1 hC.2.1 dX7_bitsOfFloat_37 ?_
          refine n_top (y := nI (ex * 8388608)) (shl23 _ (by omega)) ?_
          refine lv_fload_n hC.1 hC.2.1 dX7_bitsOfFloat_38 rfl (lv_at hl 1 rfl) ?_
          refine lv_fconst1 hC.1 hC.2.1 dX7_bitsOfFloat_39 ?_
          refine lv_fsub hC.1 hC.2.1 dX7_bitsOfFloat_40 (vf32_of (fb_frac (m := mm) (by omega) (by omega)).1) ?_
          refine lv_ldcf (v := (1258291200 : UInt32)) hC.1 hC.2.1 hC.2.2.2.1 (wd9 hC 1 rfl) dX7_bitsOfFloat_41 ?_
          refine lv_fmul hC.1 hC.2.1 dX7_bitsOfFloat_43 (vf32_of (fb_frac (m := mm) (by omega) (by omega)).2.1) ?_
          refine lv_f2i hC.1 hC.2.1 dX7_bitsOfFloat_44 ?_
          refine n_top (y := nI (mm - 1065353216)) (fb_frac (m := mm) (by omega) (by omega)).2.2 ?_
          refine n_add hC (a := ex * 8388608) (b := mm - 1065353216) dX7_bitsOfFloat_45 ?_
          refine r_ireturn hC hr hlk hX dX7_bitsOfFloat_46 ?_
          exact congrArg nI (by omega)
    refine loop13 _ (m0) (127) ?_ ?_ ?_ ?_ (Nat.lt_succ_self _) _ _ ls hX (lv_sub hl [0, 1, 2] rfl)
    · omega
    · omega
    · omega
    · omega
theorem fi_X7_densityBits_X7 : ∀ w ∈ wsX70, w ∈ wsX7_densityBits := by decide +kernel
theorem hd_X7_bitsOfFloat_s : yX7_bitsOfFloat.cls ≠ "java/lang/invoke/MethodHandle" ∧ yX7_bitsOfFloat.cls ≠ "java/lang/invoke/VarHandle" ∧ (parseMethodDescriptor yX7_bitsOfFloat.desc).map (fun d => d.parameters.length) = some 1 := by decide +kernel
set_option maxHeartbeats 4000000 in
set_option maxRecDepth 100000 in
theorem c_X7_densityBits (l : Launch) (G : GX) (ad : Nat → Nat) (S : XS) (hok : okX S) (p0 : Int32) : CtI l yX7_densityBits wsX7_densityBits { frames := 5, cells := 0, slots := 0, locals := 130 } G (wX G ad) (S) [.ref (ad 34), .int (p0)] (fun r S' => (noP S p0 ∧ r = -1 ∧ S' = S) ∨ ∃ q, hasP S p0 q ∧ scrX S S' ∧ ∃ ef m9, LR ef (selX q S) (st_len (x_now S) + 1) ∧ m9 ≤ 1065353216 ∧ FP.d2f (FP.ddiv (shS (gX q S ef) (cS (selX q S) (st_len (x_now S) + 1))) (FP.i2d (nI (st_len (x_now S) + 1)))) = fb m9 ∧ r = nI m9) 0 0 := by
  refine CtI.of (cc := cX7_densityBits) (maxL := 3) (ret := some .int) (by decide +kernel) rfl (Nat.le_of_ble_eq_true rfl) ?_
  intro p e s m args below meth c ls A hC hr hlk hin hK hA hX hl
  have hl : lv_has ls 3 [(0, .ref (ad 34)), (1, .int (p0))] := hl
  have hokk := hok
  obtain ⟨hok1, hok2, hok3, hok4, hok5, hok6, hok7, hok8, hok9, hokA, hokB⟩ := hok
  obtain ⟨hT, hTn, hTp, hTm, hTi, hTj⟩ := hok1
  refine lv_aload_n hC.1 hC.2.1 dX7_densityBits_0 rfl (lv_at hl 0 rfl) ?_
  refine g_x_now hC fi_X7_densityBits_X7 hK hX (wd9 hC 1 rfl) dX7_densityBits_1 ?_
  refine lv_iload_n hC.1 hC.2.1 dX7_densityBits_4 rfl (lv_at hl 1 rfl) ?_
  refine cv_Q (As := [.int (p0)]) (rest := []) hC hK hA hX (c_X5_patternOrNull l G ad (S) (p0) hTp) (cwV 1 hC.2.2.2.2 gX7_densityBits_X5_patternOrNull rfl rfl rfl hd_X5_patternOrNull ⟨Nat.le_of_ble_eq_true rfl, Nat.le_of_ble_eq_true rfl⟩) (ci := 5) (q := (RX5, TX5, 5)) rfl (q0 := 0) rfl dX7_densityBits_5 rfl hl.1 rfl (Nat.le_of_ble_eq_true rfl) ⟨(Nat.zero_le _), (Nat.zero_le _)⟩ (fun r9 S9 H locs hp9 hX => ?_)
  obtain ⟨hr9, hS9⟩ := hp9
  rw [hS9] at hX
  replace hr9 : ((∃ j, p0 = nI j ∧ j < st_pcnt (x_now S) ∧ r9 = st_pats (x_now S) j) ∨ ((p0 < 0 ∨ nI (st_pcnt (x_now S)) ≤ p0) ∧ r9 = none)) := hr9
  replace hX : HH G A s.heap (wX G ad (S)) H locs := hX
  rcases hr9 with ⟨jp9, hjp9, hjc9, hr9⟩ | ⟨hn9, hr9⟩
  · obtain ⟨q0, jq0, hq_q0, hpa9⟩ := hTj jp9 hjc9
    obtain rfl : r9 = some (pd_a q0) := hr9.trans hpa9
    have hP0 : hasP S p0 q0 := ⟨jp9, hjp9, hjc9, hpa9, jq0, hq_q0⟩
    obtain ⟨hm1, hm0, hb0, hpt0⟩ := hokB q0 jq0 hq_q0
    refine lv_astore_n (lv' := [(2, .ref (pd_a q0)), (0, .ref (ad 34)), (1, .int (p0))]) hC.1 hC.2.1 dX7_densityBits_8 rfl hl (by decide) rfl (fun ls hl => ?_)
    refine lv_aload_n hC.1 hC.2.1 dX7_densityBits_9 rfl (lv_at hl 0 rfl) ?_
    refine lv_ifnonnull (tgt := 15) hC.1 hC.2.1 dX7_densityBits_10 (by decide) ?_
    refine lv_aload_n hC.1 hC.2.1 dX7_densityBits_15 rfl (lv_at hl 1 rfl) ?_
    refine lv_aload_n hC.1 hC.2.1 dX7_densityBits_16 rfl (lv_at hl 0 rfl) ?_
    refine cv_D (As := [.ref (pd_a q0)]) (rest := []) hC hK hA hX (c_X7_densityOf l G ad (S) hokk q0 _ hq_q0) (cwV 1 hC.2.2.2.2 gX7_densityBits_X7_densityOf rfl rfl rfl hd_X7_densityOf ⟨Nat.le_of_ble_eq_true rfl, Nat.le_of_ble_eq_true rfl⟩) (ci := 7) (q := (RX7, TX7, 8)) rfl (q0 := 34) rfl dX7_densityBits_17 rfl hl.1 rfl (Nat.le_of_ble_eq_true rfl) ⟨(Nat.zero_le _), (Nat.zero_le _)⟩ (fun r9 S9 H locs hp9 hX => ?_)
    obtain ⟨S10, hS10⟩ : ∃ S10, S10 = S9 := ⟨S9, rfl⟩
    subst hS10
    obtain ⟨hscr, ef9, hLR9, hr9⟩ := hp9
    subst hr9
    replace hX : HH G A s.heap (wX G ad (S10)) H locs := hX
    obtain ⟨m9, hmb, hm9⟩ := dens_bits (gX_4 q0 S ef9) (n := cS (selX q0 S) (st_len (x_now S) + 1)) (L := st_len (x_now S) + 1) (cS_le _ _) (by omega) (by omega)
    refine lv_d2f hC.1 hC.2.1 dX7_densityBits_20 (by rw [hmb]; exact vf32_of (FP.Core.FFin.notNaN (fb_fin (by omega)))) ?_
    refine n_topf (y := fb m9) hmb ?_
    refine ps_I (As := [.float (fb m9)]) (rest := []) hC hK hA hX (c_X7_bitsOfFloat l G m9 hm9) (va_cwS 1 hC.2.2.2.2 gX7_densityBits_X7_bitsOfFloat rfl rfl rfl hd_X7_bitsOfFloat_s ⟨Nat.le_of_ble_eq_true rfl, Nat.le_of_ble_eq_true rfl⟩) dX7_densityBits_21 rfl hl.1 rfl (Nat.le_of_ble_eq_true rfl) ⟨(Nat.zero_le _), (Nat.zero_le _)⟩ (fun r9 S9 H locs hp9 hX => ?_)
    obtain rfl := hp9
    replace hX : HH G A s.heap (wX G ad (S10)) H locs := hX
    refine r_ireturn hC hr hlk hX dX7_densityBits_24 ?_
    exact Or.inr ⟨q0, hP0, hscr, ef9, m9, hLR9, by omega, hmb, rfl⟩
  · obtain rfl : r9 = none := hr9
    have hP0 : noP S p0 := hn9
    refine lv_astore_nN (lv' := [(2, .null), (0, .ref (ad 34)), (1, .int (p0))]) hC.1 hC.2.1 dX7_densityBits_8 rfl hl (by decide) rfl (fun ls hl => ?_)
    refine lv_aload_nN hC.1 hC.2.1 dX7_densityBits_9 rfl (lv_at hl 0 rfl) ?_
    refine lv_ifnonnullN hC.1 hC.2.1 dX7_densityBits_10 ?_
    refine lv_iconst (v := (-1)) hC.1 hC.2.1 dX7_densityBits_13 rfl ?_
    refine r_ireturn hC hr hlk hX dX7_densityBits_14 ?_
    exact Or.inl ⟨hP0, rfl, rfl⟩
theorem hd_Jxf58ca_floatToIntBits_5c35a_s : yJxf58ca_floatToIntBits_5c35a.cls ≠ "java/lang/invoke/MethodHandle" ∧ yJxf58ca_floatToIntBits_5c35a.cls ≠ "java/lang/invoke/VarHandle" ∧ (parseMethodDescriptor yJxf58ca_floatToIntBits_5c35a.desc).map (fun d => d.parameters.length) = some 1 := by decide +kernel
set_option maxHeartbeats 4000000 in
set_option maxRecDepth 100000 in
theorem c_X8_densityBits (l : Launch) (G : GX) (am : Nat → Nat) (S : MS) (hok : okM S) (p0 : Int32) : CtI l yX8_densityBits wsX8_densityBits { frames := 5, cells := 0, slots := 0, locals := 118 } G (wM G am) (S) [.ref (am 0), .int (p0)] (fun r S' => (isPm (m_all S) p0 = false ∧ r = -1 ∧ S' = S) ∨ ∃ j, p0 = nI j ∧ j < aPc (m_all S) ∧ samM S S' ∧ ∃ ef m9, LR ef (selAM (m_all S) j false) (aLen (m_all S) + 1) ∧ m9 ≤ 1065353216 ∧ FP.d2f (FP.ddiv (shS (gM (m_all S) j ef) (cS (selAM (m_all S) j false) (aLen (m_all S) + 1))) (FP.i2d (nI (aLen (m_all S) + 1)))) = fb m9 ∧ r = nI m9) 0 0 := by
  refine CtI.of (cc := cX8_densityBits) (maxL := 2) (ret := some .int) (by decide +kernel) rfl (Nat.le_of_ble_eq_true rfl) ?_
  intro p e s m args below meth c ls A hC hr hlk hin hK hA hX hl
  have hl : lv_has ls 2 [(0, .ref (am 0)), (1, .int (p0))] := hl
  have hokM := hok
  obtain ⟨hokk, hhl, hhs, hsn, hit, hpl0, hpd0⟩ := hok
  obtain ⟨hLn, hPc, hMs, hTx, hPt⟩ := id hokk
  refine lv_aload_n hC.1 hC.2.1 dX8_densityBits_0 rfl (lv_at hl 0 rfl) ?_
  refine lv_iload_n hC.1 hC.2.1 dX8_densityBits_1 rfl (lv_at hl 1 rfl) ?_
  refine cv_I (As := [.int (p0)]) (rest := []) hC hK hA hX (c_X8_isPattern l G am (S) hokk (p0)) (cwV 1 hC.2.2.2.2 gX8_densityBits_X8_isPattern rfl rfl rfl hd_X8_isPattern ⟨Nat.le_of_ble_eq_true rfl, Nat.le_of_ble_eq_true rfl⟩) (ci := 8) (q := (RX8, TX8, 21)) rfl (q0 := 0) rfl dX8_densityBits_2 rfl hl.1 rfl (Nat.le_of_ble_eq_true rfl) ⟨(Nat.zero_le _), (Nat.zero_le _)⟩ (fun r9 S9 H locs hp9 hX => ?_)
  obtain ⟨rfl, hS9⟩ := hp9
  rw [hS9] at hX
  replace hX : HH G A s.heap (wM G am (S)) H locs := hX
  refine b_if_eq hC (b := isPm (m_all S) (p0)) (tgt := 20) dX8_densityBits_5 (by decide) (fun c5 => ?_) (fun c5 => ?_)
  · skip
    refine lv_iconst (v := (-1)) hC.1 hC.2.1 dX8_densityBits_20 rfl ?_
    refine r_ireturn hC hr hlk hX dX8_densityBits_21 ?_
    first | exact Or.inl ⟨c5, rfl, rfl⟩ | exact Or.inr ⟨pj, rfl, hpj, ⟨rfl, rfl, rfl, rfl, rfl, rfl, rfl⟩, ef10, m9, hLR10, by omega, hmb, rfl⟩
  · skip
    obtain ⟨pj, hpj, rfl⟩ := isPm_t c5
    have hp0 : pj < 6 := by omega
    obtain ⟨hpl, hbd, htk⟩ := hPt pj hp0
    refine lv_aload_n hC.1 hC.2.1 dX8_densityBits_8 rfl (lv_at hl 0 rfl) ?_
    refine lv_iload_n hC.1 hC.2.1 dX8_densityBits_9 rfl (lv_at hl 1 rfl) ?_
    refine cv_D (As := [.int (nI (pj))]) (rest := []) hC hK hA hX (c_X8_densityOf l G am (S) hokk (pj) hp0) (cwV 1 hC.2.2.2.2 gX8_densityBits_X8_densityOf rfl rfl rfl hd_X8_densityOf ⟨Nat.le_of_ble_eq_true rfl, Nat.le_of_ble_eq_true rfl⟩) (ci := 8) (q := (RX8, TX8, 21)) rfl (q0 := 0) rfl dX8_densityBits_10 rfl hl.1 rfl (Nat.le_of_ble_eq_true rfl) ⟨(Nat.zero_le _), (Nat.zero_le _)⟩ (fun r9 S9 H locs hp9 hX => ?_)
    obtain ⟨fw10, bg10, ef10, ne10, hS9, hLR10, hr10⟩ := hp9
    rw [hS9] at hX
    replace hX : HH G A s.heap (wM G am (w_nends (w_endAt (w_begin (w_fewest (S) (fw10)) (bg10)) (ef10)) (ne10))) H locs := hX
    subst hr10
    obtain ⟨m9, hmb, hm9⟩ := dens_bits (gM_4 (m_all S) pj ef10) (n := cS (selAM (m_all S) pj false) (aLen (m_all S) + 1)) (L := aLen (m_all S) + 1) (cS_le _ _) (by omega) (by omega)
    refine lv_d2f hC.1 hC.2.1 dX8_densityBits_13 (by rw [hmb]; exact vf32_of (FP.Core.FFin.notNaN (fb_fin (by omega)))) ?_
    refine n_topf (y := fb m9) hmb ?_
    refine ps_I (As := [.float (fb m9)]) (rest := []) hC hK hA hX (c_Jxf58ca_floatToIntBits_5c35a l G (m9) (by omega)) (va_cwS 1 hC.2.2.2.2 gX8_densityBits_Jxf58ca_floatToIntBits_5c35a rfl rfl rfl hd_Jxf58ca_floatToIntBits_5c35a_s ⟨Nat.le_of_ble_eq_true rfl, Nat.le_of_ble_eq_true rfl⟩) dX8_densityBits_14 rfl hl.1 rfl (Nat.le_of_ble_eq_true rfl) ⟨(Nat.zero_le _), (Nat.zero_le _)⟩ (fun r9 S9 H locs hp9 hX => ?_)
    obtain rfl := hp9
    replace hX : HH G A s.heap (wM G am (w_nends (w_endAt (w_begin (w_fewest (S) (fw10)) (bg10)) (ef10)) (ne10))) H locs := hX
    refine lv_goto (tgt := 21) hC.1 hC.2.1 dX8_densityBits_17 (by decide) ?_
    refine r_ireturn hC hr hlk hX dX8_densityBits_21 ?_
    first | exact Or.inl ⟨c5, rfl, rfl⟩ | exact Or.inr ⟨pj, rfl, hpj, ⟨rfl, rfl, rfl, rfl, rfl, rfl, rfl⟩, ef10, m9, hLR10, by omega, hmb, rfl⟩
