theorem fi_X2_init_X2 : ∀ w ∈ wsX20, w ∈ wsX2_init := by decide +kernel
set_option maxHeartbeats 4000000 in
set_option maxRecDepth 100000 in
theorem c_X2_init (l : Launch) (G : GX) (ad : Nat → Nat) (S : XS) (na c0 : Nat) (b0 : Bool) (hc0 : c0 ≤ 60) (hv0 : ∀ j, j < c0 → x_rplaces S j < 134217728) : CtV l yX2_init wsX2_init { frames := 1, cells := 2, slots := 87, locals := 20 } G (fun w9 : va_W => w9) (wX G ad S ++ [(na, .inr (2, [.null, .int (nI 0), .int (bI false), .null]))]) [.ref na, .ref (ad 23), .int (nI c0), .int (bI b0)] (fun w9 => ∃ npl npt f g, w9 = wX G ad (u_pool S (x_pool S ++ [(na, npl, npt, f, c0, b0, g)])) ∧ (∀ j, j < c0 → f j = x_rplaces S j) ∧ ∀ z, z < 27 → ∀ j, j < 60 → lbit (g z) j = (decide (j < c0) && (x_rplaces S j).testBit z)) 2 87 := by
  refine CtV.of (cc := cX2_init) (maxL := 7) (ret := none) (by decide +kernel) rfl (Nat.le_of_ble_eq_true rfl) ?_
  intro p e s m args below meth c ls A hC hr hlk hin hK hA hX hl
  have hl : lv_has ls 7 [(0, .ref na), (1, .ref (ad 23)), (2, .int (nI (c0))), (3, .int (bI (b0)))] := hl
  refine lv_aload_n hC.1 hC.2.1 dX2_init_0 rfl (lv_at hl 0 rfl) ?_
  refine y_objInit hC (a := na) (wd9 hC 1 rfl) (wd9 hC 2 rfl) (wd9 hC 3 rfl) hl.1 dX2_init_1 (Nat.le_of_ble_eq_true rfl) (Nat.le_of_ble_eq_true rfl) ?_
  refine lv_aload_n hC.1 hC.2.1 dX2_init_4 rfl (lv_at hl 0 rfl) ?_
  refine lv_bipush (v := nI 60) hC.1 hC.2.1 dX2_init_5 (by decide +kernel) ?_
  refine y_newa hC hK hX hA (atype := .int) (a0 := (60, .inl (fun k9 => nI 0))) (N := 60) (cB := G.2.2.1) (i := 1) (wd9 hC 4 rfl) (fun _ => rfl) rfl (by decide) (Nat.le_of_ble_eq_true rfl) (Nat.le_of_ble_eq_true rfl) dX2_init_7 (fun npl H hX => ?_)
  rw [List.append_assoc] at hX
  replace hX : HH G A s.heap (wX G ad S ++ [(na, .inr (2, [.null, .int (nI 0), .int (bI false), .null])), (npl, .inl (G.2.2.1, 60, .inl (fun k9 => nI 0)))]) H [] := hX
  refine y_putF hC hK (C := RX2) (T := TX2) (N := 4) (ci := 2) fi_X2_init_X2 tyX2 tyX2_ok nmX2 hX ((wX G ad S).length + 0) (ap_get rfl) rfl 0 (by decide) (wd9 hC 5 rfl) (fun _ h => h) rfl (hin rfl) rfl (ty := tyX2 0) (v := .ref npl) (tyX2_ok 0 (by decide)) rfl rfl (Nat.le_of_ble_eq_true rfl) dX2_init_9 (fun H locs hX => ?_)
  rw [ap_set] at hX
  replace hX : HH G A s.heap (wX G ad S ++ [(na, .inr (2, [.ref npl, .int (nI 0), .int (bI false), .null])), (npl, .inl (G.2.2.1, 60, .inl (fun k9 => nI 0)))]) H locs := hX
  refine lv_aload_n hC.1 hC.2.1 dX2_init_12 rfl (lv_at hl 0 rfl) ?_
  refine lv_bipush (v := nI 27) hC.1 hC.2.1 dX2_init_13 (by decide +kernel) ?_
  refine y_newa hC hK hX hA (atype := .long) (a0 := (27, .inr (.inl (fun k9 => lN 0)))) (N := 27) (cB := G.2.2.2.1) (i := 2) (wd9 hC 6 rfl) (fun _ => rfl) rfl (by decide) (Nat.le_of_ble_eq_true rfl) (Nat.le_of_ble_eq_true rfl) dX2_init_15 (fun npt H hX => ?_)
  rw [List.append_assoc] at hX
  replace hX : HH G A s.heap (wX G ad S ++ [(na, .inr (2, [.ref npl, .int (nI 0), .int (bI false), .null])), (npl, .inl (G.2.2.1, 60, .inl (fun k9 => nI 0))), (npt, .inl (G.2.2.2.1, 27, .inr (.inl (fun k9 => lN 0))))]) H locs := hX
  refine y_putF hC hK (C := RX2) (T := TX2) (N := 4) (ci := 2) fi_X2_init_X2 tyX2 tyX2_ok nmX2 hX ((wX G ad S).length + 0) (ap_get rfl) rfl 3 (by decide) (wd9 hC 7 rfl) (fun _ h => h) rfl (hin rfl) rfl (ty := tyX2 3) (v := .ref npt) (tyX2_ok 3 (by decide)) rfl rfl (Nat.le_of_ble_eq_true rfl) dX2_init_17 (fun H locs hX => ?_)
  rw [ap_set] at hX
  replace hX : HH G A s.heap (wX G ad S ++ [(na, .inr (2, [.ref npl, .int (nI 0), .int (bI false), .ref npt])), (npl, .inl (G.2.2.1, 60, .inl (fun k9 => nI 0))), (npt, .inl (G.2.2.2.1, 27, .inr (.inl (fun k9 => lN 0))))]) H locs := hX
  replace hX : HH G A s.heap (wX G ad (u_pool S (x_pool S ++ [(na, npl, npt, fun _ => 0, 0, false, fun _ => lN 0)]))) H locs := by rw [np_app]; exact hX
  refine lv_iconst (v := nI (0)) hC.1 hC.2.1 dX2_init_20 rfl ?_
  refine lv_istore (lv' := [(4, .int (nI (0))), (0, .ref (na)), (1, .ref (ad 23)), (2, .int (nI (c0))), (3, .int (bI (b0)))]) hC.1 hC.2.1 dX2_init_21 hl (by decide) rfl (fun ls hl => ?_)
  refine lv_iconst (v := nI (0)) hC.1 hC.2.1 dX2_init_23 rfl ?_
  refine lv_istore (lv' := [(5, .int (nI (0))), (4, .int (nI (0))), (0, .ref (na)), (1, .ref (ad 23)), (2, .int (nI (c0))), (3, .int (bI (b0)))]) hC.1 hC.2.1 dX2_init_24 hl (by decide) rfl (fun ls hl => ?_)
  have loop26 : ∀ (n9 : Nat) (i : Nat) (f : Nat → Nat) (g : Nat → Int64), (i ≤ c0) → (∀ j, j < i → f j = x_rplaces S j) → (∀ z, z < 27 → ∀ j, j < 60 → lbit (g z) j = (decide (j < i) && (x_rplaces S j).testBit z)) → c0 - i < n9 → ∀ (H : Heap) (locs : List Loc) (ls : Array Slot), HH G A s.heap (wX G ad (u_pool S (x_pool S ++ [(na, npl, npt, f, 0, false, g)]))) H locs → lv_has ls 7 [(5, .int (nI (i))), (4, .int (nI (i))), (0, .ref (na)), (1, .ref (ad 23)), (2, .int (nI (c0))), (3, .int (bI (b0)))] → W p l e { frames := 1, cells := 2, slots := 87, locals := 20 } s m args below meth c H locs 2 87 (EndV G (fun w9 : va_W => w9) A (fun w9 => ∃ npl npt f g, w9 = wX G ad (u_pool S (x_pool S ++ [(na, npl, npt, f, c0, b0, g)])) ∧ (∀ j, j < c0 → f j = x_rplaces S j) ∧ ∀ z, z < 27 → ∀ j, j < 60 → lbit (g z) j = (decide (j < c0) && (x_rplaces S j).testBit z)) below args s 2 87) (F0 m 26 ls []) := by
    intro n9
    induction n9 with
    | zero => intro i f g hi hf hg hn9; exact absurd hn9 (Nat.not_lt_zero _)
    | succ n9 ih26 =>
      intro i f g hi hf hg hn9 H locs ls hX hl
      refine lv_iload hC.1 hC.2.1 dX2_init_26 (lv_at hl 0 rfl) ?_
      refine lv_bipush (v := nI (60)) hC.1 hC.2.1 dX2_init_28 (by decide +kernel) ?_
      refine n_icmp_ge hC (a := i) (b := 60) (tgt := 105) dX2_init_30 (by decide) (by omega) (by decide) (fun c30 => ?_) (fun c30 => ?_)
      · skip
        refine lv_aload_n hC.1 hC.2.1 dX2_init_105 rfl (lv_at hl 2 rfl) ?_
        refine lv_iload hC.1 hC.2.1 dX2_init_106 (lv_at hl 1 rfl) ?_
        refine p_np_cnt hC fi_X2_init_X2 hK (hin rfl) hX (v := i) (wd9 hC 8 rfl) dX2_init_108 (fun H locs hX => ?_)
        replace hX : HH G A s.heap (wX G ad (u_pool S (x_pool S ++ [(na, npl, npt, f, i, false, g)]))) H locs := hX
        refine lv_aload_n hC.1 hC.2.1 dX2_init_111 rfl (lv_at hl 2 rfl) ?_
        refine lv_iload_n hC.1 hC.2.1 dX2_init_112 rfl (lv_at hl 5 rfl) ?_
        refine p_np_bnd hC fi_X2_init_X2 hK (hin rfl) hX (v := b0) (wd9 hC 9 rfl) dX2_init_113 (fun H locs hX => ?_)
        replace hX : HH G A s.heap (wX G ad (u_pool S (x_pool S ++ [(na, npl, npt, f, i, b0, g)]))) H locs := hX
        refine r_return (w := fun w9 : va_W => w9) hC hr hlk hX dX2_init_116 ?_
        obtain rfl : i = c0 := by omega
        exact ⟨npl, npt, f, g, rfl, hf, hg⟩
      · skip
        refine lv_iload hC.1 hC.2.1 dX2_init_33 (lv_at hl 0 rfl) ?_
        refine lv_iload_n hC.1 hC.2.1 dX2_init_35 rfl (lv_at hl 4 rfl) ?_
        refine n_icmp_ge hC (a := i) (b := c0) (tgt := 105) dX2_init_36 (by decide) (by omega) (by omega) (fun c36 => ?_) (fun c36 => ?_)
        · skip
          refine lv_aload_n hC.1 hC.2.1 dX2_init_105 rfl (lv_at hl 2 rfl) ?_
          refine lv_iload hC.1 hC.2.1 dX2_init_106 (lv_at hl 1 rfl) ?_
          refine p_np_cnt hC fi_X2_init_X2 hK (hin rfl) hX (v := i) (wd9 hC 8 rfl) dX2_init_108 (fun H locs hX => ?_)
          replace hX : HH G A s.heap (wX G ad (u_pool S (x_pool S ++ [(na, npl, npt, f, i, false, g)]))) H locs := hX
          refine lv_aload_n hC.1 hC.2.1 dX2_init_111 rfl (lv_at hl 2 rfl) ?_
          refine lv_iload_n hC.1 hC.2.1 dX2_init_112 rfl (lv_at hl 5 rfl) ?_
          refine p_np_bnd hC fi_X2_init_X2 hK (hin rfl) hX (v := b0) (wd9 hC 9 rfl) dX2_init_113 (fun H locs hX => ?_)
          replace hX : HH G A s.heap (wX G ad (u_pool S (x_pool S ++ [(na, npl, npt, f, i, b0, g)]))) H locs := hX
          refine r_return (w := fun w9 : va_W => w9) hC hr hlk hX dX2_init_116 ?_
          obtain rfl : i = c0 := by omega
          exact ⟨npl, npt, f, g, rfl, hf, hg⟩
        · skip
          refine lv_iload hC.1 hC.2.1 dX2_init_39 (lv_at hl 0 rfl) ?_
          refine lv_aload_n hC.1 hC.2.1 dX2_init_41 rfl (lv_at hl 3 rfl) ?_
          refine len_rplaces hC hK hX  dX2_init_42 ?_
          refine n_icmp_ge hC (a := i) (b := 60) (tgt := 105) dX2_init_43 (by decide) (by omega) (by decide) (fun c43 => ?_) (fun c43 => ?_)
          · skip
            refine lv_aload_n hC.1 hC.2.1 dX2_init_105 rfl (lv_at hl 2 rfl) ?_
            refine lv_iload hC.1 hC.2.1 dX2_init_106 (lv_at hl 1 rfl) ?_
            refine p_np_cnt hC fi_X2_init_X2 hK (hin rfl) hX (v := i) (wd9 hC 8 rfl) dX2_init_108 (fun H locs hX => ?_)
            replace hX : HH G A s.heap (wX G ad (u_pool S (x_pool S ++ [(na, npl, npt, f, i, false, g)]))) H locs := hX
            refine lv_aload_n hC.1 hC.2.1 dX2_init_111 rfl (lv_at hl 2 rfl) ?_
            refine lv_iload_n hC.1 hC.2.1 dX2_init_112 rfl (lv_at hl 5 rfl) ?_
            refine p_np_bnd hC fi_X2_init_X2 hK (hin rfl) hX (v := b0) (wd9 hC 9 rfl) dX2_init_113 (fun H locs hX => ?_)
            replace hX : HH G A s.heap (wX G ad (u_pool S (x_pool S ++ [(na, npl, npt, f, i, b0, g)]))) H locs := hX
            refine r_return (w := fun w9 : va_W => w9) hC hr hlk hX dX2_init_116 ?_
            obtain rfl : i = c0 := by omega
            exact ⟨npl, npt, f, g, rfl, hf, hg⟩
          · skip
            refine lv_aload_n hC.1 hC.2.1 dX2_init_46 rfl (lv_at hl 2 rfl) ?_
            refine g_pat_places hC fi_X2_init_X2 hK hX (np_get (S := S) (q := (na, npl, npt, f, 0, false, g))) (wd9 hC 5 rfl) dX2_init_47 ?_
            refine lv_iload hC.1 hC.2.1 dX2_init_50 (lv_at hl 0 rfl) ?_
            refine lv_aload_n hC.1 hC.2.1 dX2_init_52 rfl (lv_at hl 3 rfl) ?_
            refine lv_iload hC.1 hC.2.1 dX2_init_53 (lv_at hl 0 rfl) ?_
            refine l_rplaces hC hK hX (i := i) (by omega) dX2_init_55 (v := x_rplaces S i) rfl ?_
            refine s_nplf hC hK hX (i := i) (v := x_rplaces S i) (by omega) dX2_init_56 (fun H locs hX => ?_)
            replace hX : HH G A s.heap (wX G ad (u_pool S (x_pool S ++ [(na, npl, npt, va_up (f) (i) (x_rplaces S i), 0, false, g)]))) H locs := hX
            refine lv_iconst (v := nI (0)) hC.1 hC.2.1 dX2_init_57 rfl ?_
            refine lv_istore (lv' := [(6, .int (nI (0))), (5, .int (nI (i))), (4, .int (nI (i))), (0, .ref (na)), (1, .ref (ad 23)), (2, .int (nI (c0))), (3, .int (bI (b0)))]) hC.1 hC.2.1 dX2_init_58 hl (by decide) rfl (fun ls hl => ?_)
            have loop60 : ∀ (n9 : Nat) (k : Nat) (g2 : Nat → Int64), (k ≤ 27) → (∀ z, z < 27 → ∀ j, j < 60 → lbit (g2 z) j = (decide (j < (if z < k then i + 1 else i)) && (x_rplaces S j).testBit z)) → 27 - k < n9 → ∀ (H : Heap) (locs : List Loc) (ls : Array Slot), HH G A s.heap (wX G ad (u_pool S (x_pool S ++ [(na, npl, npt, va_up (f) (i) (x_rplaces S i), 0, false, g2)]))) H locs → lv_has ls 7 [(6, .int (nI (k))), (5, .int (nI (i))), (4, .int (nI (i))), (0, .ref (na)), (1, .ref (ad 23)), (2, .int (nI (c0))), (3, .int (bI (b0)))] → W p l e { frames := 1, cells := 2, slots := 87, locals := 20 } s m args below meth c H locs 2 87 (EndV G (fun w9 : va_W => w9) A (fun w9 => ∃ npl npt f g, w9 = wX G ad (u_pool S (x_pool S ++ [(na, npl, npt, f, c0, b0, g)])) ∧ (∀ j, j < c0 → f j = x_rplaces S j) ∧ ∀ z, z < 27 → ∀ j, j < 60 → lbit (g z) j = (decide (j < c0) && (x_rplaces S j).testBit z)) below args s 2 87) (F0 m 60 ls []) := by
              intro n9
              induction n9 with
              | zero => intro k g2 hk hg2 hn9; exact absurd hn9 (Nat.not_lt_zero _)
              | succ n9 ih60 =>
                intro k g2 hk hg2 hn9 H locs ls hX hl
                refine lv_iload hC.1 hC.2.1 dX2_init_60 (lv_at hl 0 rfl) ?_
                refine lv_bipush (v := nI (27)) hC.1 hC.2.1 dX2_init_62 (by decide +kernel) ?_
                refine n_icmp_ge hC (a := k) (b := 27) (tgt := 96) dX2_init_64 (by decide) (by omega) (by decide) (fun c64 => ?_) (fun c64 => ?_)
                · skip
                  refine lv_iinc (v := nI (i + 1)) (lv' := [(4, .int (nI (i + 1))), (6, .int (nI (k))), (5, .int (nI (i))), (0, .ref (na)), (1, .ref (ad 23)), (2, .int (nI (c0))), (3, .int (bI (b0)))]) hC.1 hC.2.1 dX2_init_96 hl (k := 2) rfl (n_inc1 _) (by decide) rfl (fun ls hl => ?_)
                  refine lv_iinc (v := nI (i + 1)) (lv' := [(5, .int (nI (i + 1))), (4, .int (nI (i + 1))), (6, .int (nI (k))), (0, .ref (na)), (1, .ref (ad 23)), (2, .int (nI (c0))), (3, .int (bI (b0)))]) hC.1 hC.2.1 dX2_init_99 hl (k := 2) rfl (n_inc1 _) (by decide) rfl (fun ls hl => ?_)
                  refine lv_goto (tgt := 26) hC.1 hC.2.1 dX2_init_102 (by decide) ?_
                  refine ih26 (i + 1) (va_up (f) (i) (x_rplaces S i)) (g2) ?_ ?_ ?_ ?_ _ _ ls hX (lv_sub hl [0, 1, 3, 4, 5, 6] rfl)
                  · omega
                  · exact fun j hj => by
                      by_cases h : j = i
                      · subst h; exact va_up_self _ _ _
                      · rw [va_up_ne _ _ h]; exact hf j (by omega)
                  · obtain rfl : k = 27 := by omega
                    exact fun z hz j hj => by rw [hg2 z hz j hj, if_pos hz]
                  · omega
                · skip
                  refine lv_aload_n hC.1 hC.2.1 dX2_init_67 rfl (lv_at hl 3 rfl) ?_
                  refine g_pat_placesTaking hC fi_X2_init_X2 hK hX (np_get (S := S) (q := (na, npl, npt, va_up (f) (i) (x_rplaces S i), 0, false, g2))) (wd9 hC 7 rfl) dX2_init_68 ?_
                  refine lv_iload hC.1 hC.2.1 dX2_init_71 (lv_at hl 0 rfl) ?_
                  refine lv_dup2_11 hC.1 hC.2.1 dX2_init_73 rfl rfl ?_
                  refine l_ptf hC hK hX (np_get (S := S) (q := (na, npl, npt, va_up (f) (i) (x_rplaces S i), 0, false, g2))) (i := k) (by omega) dX2_init_74 (v := g2 k) rfl ?_
                  have hvi := hv0 i (by omega)
                  refine lv_aload_n hC.1 hC.2.1 dX2_init_75 rfl (lv_at hl 4 rfl) ?_
                  refine lv_iload hC.1 hC.2.1 dX2_init_76 (lv_at hl 1 rfl) ?_
                  refine l_rplaces hC hK hX (i := i) (by omega) dX2_init_78 (v := x_rplaces S i) rfl ?_
                  refine lv_iload hC.1 hC.2.1 dX2_init_79 (lv_at hl 0 rfl) ?_
                  refine lv_ishr hC.1 hC.2.1 dX2_init_81 ?_
                  refine n_top (y := nI (x_rplaces S i / 2 ^ k)) (shr_var (by omega) (by omega)) ?_
                  refine lv_iconst (v := nI (1)) hC.1 hC.2.1 dX2_init_82 rfl ?_
                  refine lv_iand hC.1 hC.2.1 dX2_init_83 ?_
                  refine n_top (y := nI (x_rplaces S i / 2 ^ k % 2)) (pk_andN (Nat.lt_of_le_of_lt (Nat.div_le_self _ _) (by omega)) 1 (by decide +kernel)) ?_
                  refine lv_i2l (v := lN (x_rplaces S i / 2 ^ k % 2)) hC.1 hC.2.1 dX2_init_84 (nI_l (by omega)) ?_
                  refine lv_iload hC.1 hC.2.1 dX2_init_85 (lv_at hl 1 rfl) ?_
                  refine lv_lshl hC.1 hC.2.1 dX2_init_87 rfl ?_
                  refine lv_lor hC.1 hC.2.1 dX2_init_88 ?_
                  refine s_nptf hC hK hX (i := k) (v := (g2 k) ||| ((lN (x_rplaces S i / 2 ^ k % 2)) <<< ((nI (i)).toInt64 &&& 63))) (by omega) dX2_init_89 (fun H locs hX => ?_)
                  replace hX : HH G A s.heap (wX G ad (u_pool S (x_pool S ++ [(na, npl, npt, va_up (f) (i) (x_rplaces S i), 0, false, vp_updL (g2) (k) ((g2 k) ||| ((lN (x_rplaces S i / 2 ^ k % 2)) <<< ((nI (i)).toInt64 &&& 63))))]))) H locs := hX
                  refine lv_iinc (v := nI (k + 1)) (lv' := [(6, .int (nI (k + 1))), (5, .int (nI (i))), (4, .int (nI (i))), (0, .ref (na)), (1, .ref (ad 23)), (2, .int (nI (c0))), (3, .int (bI (b0)))]) hC.1 hC.2.1 dX2_init_90 hl (k := 0) rfl (n_inc1 _) (by decide) rfl (fun ls hl => ?_)
                  refine lv_goto (tgt := 60) hC.1 hC.2.1 dX2_init_93 (by decide) ?_
                  refine ih60 (k + 1) (vp_updL (g2) (k) ((g2 k) ||| ((lN (x_rplaces S i / 2 ^ k % 2)) <<< ((nI (i)).toInt64 &&& 63)))) ?_ ?_ ?_ _ _ ls hX (lv_sub hl [0, 1, 2, 3, 4, 5, 6] rfl)
                  · omega
                  · exact fun z hz j hj => by
                      by_cases h : z = k
                      · subst h
                        rw [if_pos (Nat.lt_succ_self _)]
                        have h9 := hg2 z hz j hj
                        rw [if_neg (Nat.lt_irrefl _)] at h9
                        show lbit (vp_updL g2 z _ z) j = _
                        rw [vp_updL_self]
                        exact ptf_step (by omega) hj h9
                      · have h9 := hg2 z hz j hj
                        show lbit (vp_updL g2 k _ z) j = _
                        rw [vp_updL_ne h, h9]
                        by_cases h1 : z < k
                        · rw [if_pos h1, if_pos (by omega)]
                        · rw [if_neg h1, if_neg (by omega)]
                  · omega
            refine loop60 _ (0) (g) ?_ ?_ (Nat.lt_succ_self _) _ _ ls hX (lv_sub hl [0, 1, 2, 3, 4, 5, 6] rfl)
            · omega
            · exact fun z hz j hj => by rw [if_neg (Nat.not_lt_zero _)]; exact hg z hz j hj
  refine loop26 _ (0) (fun _ => 0) (fun _ => lN 0) ?_ ?_ ?_ (Nat.lt_succ_self _) _ _ ls hX (lv_sub hl [0, 1, 2, 3, 4, 5] rfl)
  · omega
  · exact fun j h => absurd h (Nat.not_lt_zero _)
  · exact fun z _ j hj => by rw [lbit_0 (by omega), decide_eq_false (Nat.not_lt_zero _), Bool.false_and]
theorem fi_X3_makePattern_X2 : ∀ w ∈ wsX20, w ∈ wsX3_makePattern := by decide +kernel
theorem fi_X3_makePattern_X3 : ∀ w ∈ wsX30, w ∈ wsX3_makePattern := by decide +kernel
theorem hd_X2_init_i : yX2_init.cls ≠ "java/lang/invoke/MethodHandle" ∧ yX2_init.cls ≠ "java/lang/invoke/VarHandle" ∧ (parseMethodDescriptor yX2_init.desc).map (fun d => d.parameters.length) = some 3 := by decide +kernel
set_option maxHeartbeats 4000000 in
set_option maxRecDepth 100000 in
theorem c_X3_makePattern (l : Launch) (G : GX) (ad : Nat → Nat) (S : XS) (hc0 : x_rcnt S ≤ 60) (hv0 : ∀ j, j < x_rcnt S → x_rplaces S j < 134217728) : CtQ l yX3_makePattern wsX3_makePattern { frames := 2, cells := 3, slots := 91, locals := 46 } G (wX G ad) S [.ref (ad 22)] (fun r S' => ∃ na npl npt f g, r = some na ∧ S' = u_pool S (x_pool S ++ [(na, npl, npt, f, x_rcnt S, x_rbound S, g)]) ∧ (∀ j, j < x_rcnt S → f j = x_rplaces S j) ∧ ∀ z, z < 27 → ∀ j, j < 60 → lbit (g z) j = (decide (j < x_rcnt S) && (x_rplaces S j).testBit z)) 3 91 := by
  refine CtQ.of (cc := cX3_makePattern) (maxL := 1) (ret := some (.object "SlipSearch$Pattern")) (by decide +kernel) rfl (Nat.le_of_ble_eq_true rfl) ?_
  intro p e s m args below meth c ls A hC hr hlk hin hK hA hX hl
  have hl : lv_has ls 1 [(0, .ref (ad 22))] := hl
  refine y_new hC hK (C := RX2) (T := TX2) (N := 4) (ci := 2) (fs := [.null, .int (nI 0), .int (bI false), .null]) fi_X3_makePattern_X2 tyX2 tyX2_ok hX hA (wd9 hC 1 rfl) (wd9 hC 2 rfl) (wd9 hC 3 rfl) rfl (fun j hj => by
    rcases (show j = 0 ∨ j = 1 ∨ j = 2 ∨ j = 3 by omega) with rfl | rfl | rfl | rfl <;> rfl) (Nat.le_of_ble_eq_true rfl) (Nat.le_of_ble_eq_true rfl) dX3_makePattern_0 (fun na H hX => ?_)
  refine lv_dup hC.1 hC.2.1 dX3_makePattern_3 rfl ?_
  refine lv_aload_n hC.1 hC.2.1 dX3_makePattern_4 rfl (lv_at hl 0 rfl) ?_
  refine y_get hC hK (C := RX3) (T := TX3) (N := 7) (ci := 3) (fs := [.ref (ad 23), .int (nI (x_rcnt S)), .int (bI (x_rbound S)), .int (nI (x_rmode S)), .int (bI (x_rturned S)), .int (nI (x_rset S)), .int (nI (x_rlast S))]) fi_X3_makePattern_X3 hX 22 (ap_lt rfl) rfl 0 (by decide) (wd9 hC 4 rfl) (fun _ h => h) (v := .ref (ad 23)) rfl dX3_makePattern_5 ?_
  refine lv_aload_n hC.1 hC.2.1 dX3_makePattern_8 rfl (lv_at hl 0 rfl) ?_
  refine y_get hC hK (C := RX3) (T := TX3) (N := 7) (ci := 3) (fs := [.ref (ad 23), .int (nI (x_rcnt S)), .int (bI (x_rbound S)), .int (nI (x_rmode S)), .int (bI (x_rturned S)), .int (nI (x_rset S)), .int (nI (x_rlast S))]) fi_X3_makePattern_X3 hX 22 (ap_lt rfl) rfl 1 (by decide) (wd9 hC 5 rfl) (fun _ h => h) (v := .int (nI (x_rcnt S))) rfl dX3_makePattern_9 ?_
  refine lv_aload_n hC.1 hC.2.1 dX3_makePattern_12 rfl (lv_at hl 0 rfl) ?_
  refine y_get hC hK (C := RX3) (T := TX3) (N := 7) (ci := 3) (fs := [.ref (ad 23), .int (nI (x_rcnt S)), .int (bI (x_rbound S)), .int (nI (x_rmode S)), .int (bI (x_rturned S)), .int (nI (x_rset S)), .int (nI (x_rlast S))]) fi_X3_makePattern_X3 hX 22 (ap_lt rfl) rfl 2 (by decide) (wd9 hC 6 rfl) (fun _ h => h) (v := .int (bI (x_rbound S))) rfl dX3_makePattern_13 ?_
  refine y_init (w := fun w9 : va_W => w9) (As := [.ref (ad 23), .int (nI (x_rcnt S)), .int (bI (x_rbound S))]) (rest := [.ref na]) hC hK hA hX (c_X2_init l G ad S na (x_rcnt S) (x_rbound S) hc0 hv0) (cwI 3 hC.2.2.2.2 gX3_makePattern_X2_init rfl rfl rfl (wd9 hC 3 rfl) (wd9 hC 7 rfl) (wd9 hC 8 rfl) rfl hd_X2_init_i ⟨Nat.le_of_ble_eq_true rfl, Nat.le_of_ble_eq_true rfl⟩) dX3_makePattern_16 rfl hl.1 rfl (Nat.le_of_ble_eq_true rfl) ⟨(Nat.le_of_ble_eq_true rfl), (Nat.le_of_ble_eq_true rfl)⟩ (fun S9 H locs hp9 hX => ?_)
  obtain ⟨npl, npt, f, g, rfl, hf, hg⟩ := hp9
  refine W.eq (g2 := F0 m 19 ls [va_rf (some na)]) rfl ?_
  refine r_areturn hC hr hlk (w := wX G ad) hX dX3_makePattern_19 ?_
  exact ⟨na, npl, npt, f, g, rfl, rfl, hf, hg⟩
theorem fi_X7_addPattern_X7 : ∀ w ∈ wsX70, w ∈ wsX7_addPattern := by decide +kernel
theorem hd_X3_readFault : yX3_readFault.cls = RX3 ∧ yX3_readFault.cls ≠ "java/lang/invoke/MethodHandle" ∧ yX3_readFault.cls ≠ "java/lang/invoke/VarHandle" ∧ (parseMethodDescriptor yX3_readFault.desc).map (fun d => d.parameters.length) = some 1 := by decide +kernel
theorem fi_X7_addPattern_X5 : ∀ w ∈ wsX50, w ∈ wsX7_addPattern := by decide +kernel
theorem hd_X3_makePattern : yX3_makePattern.cls = RX3 ∧ yX3_makePattern.cls ≠ "java/lang/invoke/MethodHandle" ∧ yX3_makePattern.cls ≠ "java/lang/invoke/VarHandle" ∧ (parseMethodDescriptor yX3_makePattern.desc).map (fun d => d.parameters.length) = some 0 := by decide +kernel
theorem hd_X5_addLast : yX5_addLast.cls = RX5 ∧ yX5_addLast.cls ≠ "java/lang/invoke/MethodHandle" ∧ yX5_addLast.cls ≠ "java/lang/invoke/VarHandle" ∧ (parseMethodDescriptor yX5_addLast.desc).map (fun d => d.parameters.length) = some 1 := by decide +kernel
set_option maxHeartbeats 4000000 in
set_option maxRecDepth 100000 in
theorem c_X7_addPattern (l : Launch) (G : GX) (ad : Nat → Nat) (S : XS) (hok : okX S) : CtI l yX7_addPattern wsX7_addPattern { frames := 5, cells := 3, slots := 91, locals := 106 } G (wX G ad) (S) [.ref (ad 34)] (fun r S' => ∃ R r0, okRD R (x_plen S) ∧ rdFault (x_typed S) (rd0 (getRD S)) (x_plen S) R (r0) ∧ ((r0 ≠ -1 ∧ r = (-100) - r0 ∧ S' = setRD S R) ∨ (r0 = -1 ∧ ¬ st_pcnt (x_now S) < 6 ∧ r = -3 ∧ S' = setRD S R) ∨ (r0 = -1 ∧ st_pcnt (x_now S) < 6 ∧ r = nI (st_pcnt (x_now S)) ∧ ∃ na npl npt f g, S' = u_pool (u_now (recF (setRD S R)) (st_text (x_now S), st_len (x_now S), va_up (st_pats (x_now S)) (st_pcnt (x_now S)) (some na), st_pcnt (x_now S) + 1, st_most (x_now S))) (x_pool S ++ [(na, npl, npt, f, rd_cnt R, rd_bound R, g)]) ∧ (∀ j, j < rd_cnt R → f j = rd_pl R j) ∧ ∀ z, z < 27 → ∀ j, j < 60 → lbit (g z) j = (decide (j < rd_cnt R) && (rd_pl R j).testBit z)))) 3 91 := by
  refine CtI.of (cc := cX7_addPattern) (maxL := 2) (ret := some .int) (by decide +kernel) rfl (Nat.le_of_ble_eq_true rfl) ?_
  intro p e s m args below meth c ls A hC hr hlk hin hK hA hX hl
  have hl : lv_has ls 2 [(0, .ref (ad 34))] := hl
  have hokk := hok
  obtain ⟨hok1, hok2, hok3, hok4, hok5, hok6, hok7, hok8, hok9, hokA, hokB⟩ := hok
  obtain ⟨hT, hTn, hTp, hTm, hTi, hTj⟩ := hok1
  refine lv_aload_n hC.1 hC.2.1 dX7_addPattern_0 rfl (lv_at hl 0 rfl) ?_
  refine g_x_reader hC fi_X7_addPattern_X7 hK hX (wd9 hC 1 rfl) dX7_addPattern_1 ?_
  refine lv_aload_n hC.1 hC.2.1 dX7_addPattern_4 rfl (lv_at hl 0 rfl) ?_
  refine g_x_pad hC fi_X7_addPattern_X7 hK hX (wd9 hC 2 rfl) dX7_addPattern_5 ?_
  refine cv_I (As := [.ref (ad 20)]) (rest := []) hC hK hA hX (c_X3_readFault l G ad (S) hok7 hok8 hok9 hokA) (cwV 1 hC.2.2.2.2 gX7_addPattern_X3_readFault rfl rfl rfl hd_X3_readFault ⟨Nat.le_of_ble_eq_true rfl, Nat.le_of_ble_eq_true rfl⟩) (ci := 3) (q := (RX3, TX3, 7)) rfl (q0 := 22) rfl dX7_addPattern_8 rfl hl.1 rfl (Nat.le_of_ble_eq_true rfl) ⟨(Nat.le_of_ble_eq_true rfl), (Nat.le_of_ble_eq_true rfl)⟩ (fun r9 S9 H locs hp9 hX => ?_)
  obtain ⟨R, hS9, hRo, hRf⟩ := hp9
  rw [hS9] at hX
  obtain ⟨ra, hra⟩ : ∃ x, x = r9 := ⟨_, rfl⟩
  subst hra
  replace hX : HH G A s.heap (wX G ad (u_rlast (u_rset (u_rturned (u_rmode (u_rbound (u_rcnt (u_rplaces (S) (rd_pl R)) (rd_cnt R)) (rd_bound R)) (rd_mode R)) (rd_turned R)) (rd_set R)) (rd_last R))) H locs := hX
  refine lv_istore_n (lv' := [(1, .int (ra)), (0, .ref (ad 34))]) hC.1 hC.2.1 dX7_addPattern_11 rfl hl (by decide) rfl (fun ls hl => ?_)
  refine lv_iload_n hC.1 hC.2.1 dX7_addPattern_12 rfl (lv_at hl 0 rfl) ?_
  refine lv_iconst (v := (-1)) hC.1 hC.2.1 dX7_addPattern_13 rfl ?_
  refine lv_icmp_eq hC.1 hC.2.1 (x := ra) (y := (-1)) (tgt := 22) dX7_addPattern_14 (by decide) (fun c14 => ?_) (fun c14 => ?_)
  · skip
    refine lv_aload_n hC.1 hC.2.1 dX7_addPattern_22 rfl (lv_at hl 1 rfl) ?_
    refine g_x_now hC fi_X7_addPattern_X7 hK hX (wd9 hC 3 rfl) dX7_addPattern_23 ?_
    refine gN_pcnt (k := 0) (by decide) hC fi_X7_addPattern_X5 hK hX (hnf hK 0 rfl) dX7_addPattern_26 (v := st_pcnt (x_now S)) rfl ?_
    refine lv_bipush (v := nI (6)) hC.1 hC.2.1 dX7_addPattern_29 (by decide +kernel) ?_
    refine n_icmp_lt hC (a := st_pcnt (x_now S)) (b := 6) (tgt := 37) dX7_addPattern_31 (by decide) (by omega) (by decide) (fun c31 => ?_) (fun c31 => ?_)
    · skip
      refine lv_aload_n hC.1 hC.2.1 dX7_addPattern_37 rfl (lv_at hl 1 rfl) ?_
      refine g_x_history hC fi_X7_addPattern_X7 hK hX (wd9 hC 4 rfl) dX7_addPattern_38 ?_
      refine lv_aload_n hC.1 hC.2.1 dX7_addPattern_41 rfl (lv_at hl 1 rfl) ?_
      refine g_x_now hC fi_X7_addPattern_X7 hK hX (wd9 hC 3 rfl) dX7_addPattern_42 ?_
      refine cv_V (As := [.ref (ad 0)]) (rest := []) hC hK hA hX (c_X0_record l G ad (u_rlast (u_rset (u_rturned (u_rmode (u_rbound (u_rcnt (u_rplaces (S) (rd_pl R)) (rd_cnt R)) (rd_bound R)) (rd_mode R)) (rd_turned R)) (rd_set R)) (rd_last R)) hok4 hT.1 hTi hok6) (cwV 1 hC.2.2.2.2 gX7_addPattern_X0_record rfl rfl rfl hd_X0_record ⟨Nat.le_of_ble_eq_true rfl, Nat.le_of_ble_eq_true rfl⟩) (ci := 0) (q := (RX0, TX0, 2)) rfl (q0 := 18) rfl dX7_addPattern_45 rfl hl.1 rfl (Nat.le_of_ble_eq_true rfl) ⟨(Nat.le_of_ble_eq_true rfl), (Nat.le_of_ble_eq_true rfl)⟩ (fun S9 H locs hp9 hX => ?_)
      obtain ⟨pm9, hh9, hS9, hrec9⟩ := hp9
      obtain ⟨rfl, rfl⟩ := rec_det hrec9
      rw [hS9] at hX
      replace hX : HH G A s.heap (wX G ad (u_rlast (u_rset (u_rturned (u_rmode (u_rbound (u_rcnt (u_rplaces (u_hcnt (u_perm (u_hs (S) (va_up (x_hs S) (rcP S (rcH S)) (cpSt (x_hs S (rcP S (rcH S))) (x_now S)))) (rcP S)) (rcH S + 1)) (rd_pl R)) (rd_cnt R)) (rd_bound R)) (rd_mode R)) (rd_turned R)) (rd_set R)) (rd_last R))) H locs := hX
      refine lv_aload_n hC.1 hC.2.1 dX7_addPattern_48 rfl (lv_at hl 1 rfl) ?_
      refine g_x_now hC fi_X7_addPattern_X7 hK hX (wd9 hC 3 rfl) dX7_addPattern_49 ?_
      refine lv_aload_n hC.1 hC.2.1 dX7_addPattern_52 rfl (lv_at hl 1 rfl) ?_
      refine g_x_reader hC fi_X7_addPattern_X7 hK hX (wd9 hC 1 rfl) dX7_addPattern_53 ?_
      refine cv_Q (As := []) (rest := [.ref (ad 0)]) hC hK hA hX (c_X3_makePattern l G ad (u_rlast (u_rset (u_rturned (u_rmode (u_rbound (u_rcnt (u_rplaces (u_hcnt (u_perm (u_hs (S) (va_up (x_hs S) (rcP S (rcH S)) (cpSt (x_hs S (rcP S (rcH S))) (x_now S)))) (rcP S)) (rcH S + 1)) (rd_pl R)) (rd_cnt R)) (rd_bound R)) (rd_mode R)) (rd_turned R)) (rd_set R)) (rd_last R)) (show rd_cnt R ≤ 60 from by have := hRo.2.1; omega) hRo.2.2.2.2) (cwV 0 hC.2.2.2.2 gX7_addPattern_X3_makePattern rfl rfl rfl hd_X3_makePattern ⟨Nat.le_of_ble_eq_true rfl, Nat.le_of_ble_eq_true rfl⟩) (ci := 3) (q := (RX3, TX3, 7)) rfl (q0 := 22) rfl dX7_addPattern_56 rfl hl.1 rfl (Nat.le_of_ble_eq_true rfl) ⟨(Nat.le_of_ble_eq_true rfl), (Nat.le_of_ble_eq_true rfl)⟩ (fun r9 S9 H locs hp9 hX => ?_)
      obtain ⟨na, npl, npt, f, g, rfl, hS9, hf, hg⟩ := hp9
      rw [hS9] at hX
      replace hX : HH G A s.heap (wX G ad (u_pool (u_rlast (u_rset (u_rturned (u_rmode (u_rbound (u_rcnt (u_rplaces (u_hcnt (u_perm (u_hs (S) (va_up (x_hs S) (rcP S (rcH S)) (cpSt (x_hs S (rcP S (rcH S))) (x_now S)))) (rcP S)) (rcH S + 1)) (rd_pl R)) (rd_cnt R)) (rd_bound R)) (rd_mode R)) (rd_turned R)) (rd_set R)) (rd_last R)) (x_pool S ++ [(na, npl, npt, f, rd_cnt R, rd_bound R, g)]))) H locs := hX
      refine cv_V (As := [.ref (na)]) (rest := []) hC hK hA hX (c_X5_addLast l G ad (u_pool (u_rlast (u_rset (u_rturned (u_rmode (u_rbound (u_rcnt (u_rplaces (u_hcnt (u_perm (u_hs (S) (va_up (x_hs S) (rcP S (rcH S)) (cpSt (x_hs S (rcP S (rcH S))) (x_now S)))) (rcP S)) (rcH S + 1)) (rd_pl R)) (rd_cnt R)) (rd_bound R)) (rd_mode R)) (rd_turned R)) (rd_set R)) (rd_last R)) (x_pool S ++ [(na, npl, npt, f, rd_cnt R, rd_bound R, g)])) na (show st_pcnt (x_now S) < 6 from by omega) ⟨_, _, np_get (S := S), rfl⟩) (cwV 1 hC.2.2.2.2 gX7_addPattern_X5_addLast rfl rfl rfl hd_X5_addLast ⟨Nat.le_of_ble_eq_true rfl, Nat.le_of_ble_eq_true rfl⟩) (ci := 5) (q := (RX5, TX5, 5)) rfl (q0 := 0) rfl dX7_addPattern_59 rfl hl.1 rfl (Nat.le_of_ble_eq_true rfl) ⟨(Nat.le_of_ble_eq_true rfl), (Nat.le_of_ble_eq_true rfl)⟩ (fun S9 H locs hp9 hX => ?_)
      rw [hp9] at hX
      replace hX : HH G A s.heap (wX G ad (u_pool (u_rlast (u_rset (u_rturned (u_rmode (u_rbound (u_rcnt (u_rplaces (u_hcnt (u_perm (u_hs (u_now S (st_text (x_now S), st_len (x_now S), va_up (st_pats (x_now S)) (st_pcnt (x_now S)) (some na), st_pcnt (x_now S) + 1, st_most (x_now S))) (va_up (x_hs S) (rcP S (rcH S)) (cpSt (x_hs S (rcP S (rcH S))) (x_now S)))) (rcP S)) (rcH S + 1)) (rd_pl R)) (rd_cnt R)) (rd_bound R)) (rd_mode R)) (rd_turned R)) (rd_set R)) (rd_last R)) (x_pool S ++ [(na, npl, npt, f, rd_cnt R, rd_bound R, g)]))) H locs := hX
      refine lv_aload_n hC.1 hC.2.1 dX7_addPattern_62 rfl (lv_at hl 1 rfl) ?_
      refine g_x_now hC fi_X7_addPattern_X7 hK hX (wd9 hC 3 rfl) dX7_addPattern_63 ?_
      refine gN_pcnt (k := 0) (by decide) hC fi_X7_addPattern_X5 hK hX (hnf hK 0 rfl) dX7_addPattern_66 (v := st_pcnt (x_now S) + 1) rfl ?_
      refine lv_iconst (v := nI (1)) hC.1 hC.2.1 dX7_addPattern_69 rfl ?_
      refine n_sub hC (a := st_pcnt (x_now S) + 1) (b := 1) dX7_addPattern_70 (by omega) ?_
      refine n_top (y := nI (st_pcnt (x_now S))) (congrArg nI (Nat.add_sub_cancel _ _)) ?_
      refine r_ireturn hC hr hlk hX dX7_addPattern_71 ?_
      exact ⟨R, ra, hRo, hRf, Or.inr (Or.inr ⟨by assumption, by omega, rfl, na, npl, npt, f, g, rfl, hf, hg⟩)⟩
    · skip
      refine lv_bipush (v := (-3)) hC.1 hC.2.1 dX7_addPattern_34 (by decide +kernel) ?_
      refine EndI.more (mc := 0) (ms := 0) (by decide) (by decide) ?_
      refine r_ireturn hC hr hlk hX dX7_addPattern_36 ?_
      exact ⟨R, ra, hRo, hRf, Or.inr (Or.inl ⟨by assumption, by omega, rfl, rfl⟩)⟩
  · skip
    refine lv_bipush (v := (-100)) hC.1 hC.2.1 dX7_addPattern_17 (by decide +kernel) ?_
    refine lv_iload_n hC.1 hC.2.1 dX7_addPattern_19 rfl (lv_at hl 0 rfl) ?_
    refine lv_isub hC.1 hC.2.1 dX7_addPattern_20 ?_
    refine EndI.more (mc := 0) (ms := 0) (by decide) (by decide) ?_
    refine r_ireturn hC hr hlk hX dX7_addPattern_21 ?_
    exact ⟨R, ra, hRo, hRf, Or.inl ⟨by assumption, rfl, rfl⟩⟩
