theorem fi_X5_init_X5 : ∀ w ∈ wsX50, w ∈ wsX5_init := by decide +kernel
set_option maxHeartbeats 4000000 in
set_option maxRecDepth 100000 in
theorem c_X5_init (l : Launch) (G : GX) (h0 : Nat) : CtO l yX5_init wsX5_init { frames := 1, cells := 2, slots := 126, locals := 20 } G (fun w9 : va_W => w9) [(h0, .inr (5, [.null, .int (nI 0), .null, .int (nI 0), .int (nI 0)]))] [.ref h0] (fun w9 => ∃ q1 q2, w9 = [(h0, .inr (5, [.ref q1, .int (nI 0), .ref q2, .int (nI 0), .int (nI 1)])), (q1, .inl (G.2.1, 120, .inl (fun k9 => nI 0))), (q2, .inl (G.2.2.2.2.2.1, 6, .inr (.inr (.inr (.inr (fun _ => none))))))]) 2 126 := by
  refine CtO.of (cc := cX5_init) (maxL := 1) (ret := none) (by decide +kernel) rfl (Nat.le_of_ble_eq_true rfl) ?_
  intro p e s m args below meth c ls A hC hr hlk hin hK hO hA hX hl
  have hl : lv_has ls 1 [(0, .ref h0)] := hl
  skip
  refine lv_aload_n hC.1 hC.2.1 dX5_init_0 rfl (lv_at hl 0 rfl) ?_
  refine y_objInit hC (a := h0) (wd9 hC 1 rfl) (wd9 hC 2 rfl) (wd9 hC 3 rfl) hl.1 dX5_init_1 (Nat.le_of_ble_eq_true rfl) (Nat.le_of_ble_eq_true rfl) ?_
  refine lv_aload_n hC.1 hC.2.1 dX5_init_4 rfl (lv_at hl 0 rfl) ?_
  refine lv_bipush (v := nI 120) hC.1 hC.2.1 dX5_init_5 (by decide +kernel) ?_
  refine y_newa hC hK hX hA (atype := .char) (a0 := (120, .inl (fun k9 => nI 0))) (N := 120) (cB := G.2.1) (i := 0) (wd9 hC 4 rfl) (fun _ => rfl) rfl (by decide) (Nat.le_of_ble_eq_true rfl) (Nat.le_of_ble_eq_true rfl) dX5_init_7 (fun q1 H hX => ?_)
  replace hX : HH G A s.heap [(h0, .inr (5, [.null, .int (nI 0), .null, .int (nI 0), .int (nI 0)])), (q1, .inl (G.2.1, 120, .inl (fun k9 => nI 0)))] H [] := hX
  refine y_putF hC hK (C := RX5) (T := TX5) (N := 5) (ci := 5) fi_X5_init_X5 tyX5 tyX5_ok nmX5 hX 0 rfl rfl 0 (by decide) (wd9 hC 5 rfl) (fun _ h => h) rfl (hin rfl) rfl (ty := tyX5 0) (v := .ref q1) (tyX5_ok 0 (by decide)) rfl rfl (Nat.le_of_ble_eq_true rfl) dX5_init_9 (fun H locs hX => ?_)
  replace hX : HH G A s.heap [(h0, .inr (5, [.ref q1, .int (nI 0), .null, .int (nI 0), .int (nI 0)])), (q1, .inl (G.2.1, 120, .inl (fun k9 => nI 0)))] H locs := hX
  refine lv_aload_n hC.1 hC.2.1 dX5_init_12 rfl (lv_at hl 0 rfl) ?_
  refine lv_iconst (v := nI 0) hC.1 hC.2.1 dX5_init_13 rfl ?_
  refine y_put hC hK (C := RX5) (T := TX5) (N := 5) (ci := 5) fi_X5_init_X5 tyX5 tyX5_ok nmX5 hX 0 rfl rfl 1 (by decide) (wd9 hC 6 rfl) (fun _ h => h) rfl (ty := tyX5 1) (v := .int (nI 0)) (tyX5_ok 1 (by decide)) rfl rfl (Nat.le_of_ble_eq_true rfl) dX5_init_14 (fun H locs hX => ?_)
  replace hX : HH G A s.heap [(h0, .inr (5, [.ref q1, .int (nI 0), .null, .int (nI 0), .int (nI 0)])), (q1, .inl (G.2.1, 120, .inl (fun k9 => nI 0)))] H locs := hX
  refine lv_aload_n hC.1 hC.2.1 dX5_init_17 rfl (lv_at hl 0 rfl) ?_
  refine lv_bipush (v := nI 6) hC.1 hC.2.1 dX5_init_18 (by decide +kernel) ?_
  refine y_newq hC hK hX hA (wd9 hC 7 rfl) hO.1 (N := 6) (cB := G.2.2.2.2.2.1) (i := 4) rfl (by decide) (Nat.le_of_ble_eq_true rfl) (Nat.le_of_ble_eq_true rfl) dX5_init_20 (fun q2 H hX => ?_)
  replace hX : HH G A s.heap [(h0, .inr (5, [.ref q1, .int (nI 0), .null, .int (nI 0), .int (nI 0)])), (q1, .inl (G.2.1, 120, .inl (fun k9 => nI 0))), (q2, .inl (G.2.2.2.2.2.1, 6, .inr (.inr (.inr (.inr (fun _ => none))))))] H locs := hX
  refine y_putF hC hK (C := RX5) (T := TX5) (N := 5) (ci := 5) fi_X5_init_X5 tyX5 tyX5_ok nmX5 hX 0 rfl rfl 2 (by decide) (wd9 hC 8 rfl) (fun _ h => h) rfl (hin rfl) rfl (ty := tyX5 2) (v := .ref q2) (tyX5_ok 2 (by decide)) rfl rfl (Nat.le_of_ble_eq_true rfl) dX5_init_23 (fun H locs hX => ?_)
  replace hX : HH G A s.heap [(h0, .inr (5, [.ref q1, .int (nI 0), .ref q2, .int (nI 0), .int (nI 0)])), (q1, .inl (G.2.1, 120, .inl (fun k9 => nI 0))), (q2, .inl (G.2.2.2.2.2.1, 6, .inr (.inr (.inr (.inr (fun _ => none))))))] H locs := hX
  refine lv_aload_n hC.1 hC.2.1 dX5_init_26 rfl (lv_at hl 0 rfl) ?_
  refine lv_iconst (v := nI 0) hC.1 hC.2.1 dX5_init_27 rfl ?_
  refine y_put hC hK (C := RX5) (T := TX5) (N := 5) (ci := 5) fi_X5_init_X5 tyX5 tyX5_ok nmX5 hX 0 rfl rfl 3 (by decide) (wd9 hC 9 rfl) (fun _ h => h) rfl (ty := tyX5 3) (v := .int (nI 0)) (tyX5_ok 3 (by decide)) rfl rfl (Nat.le_of_ble_eq_true rfl) dX5_init_28 (fun H locs hX => ?_)
  replace hX : HH G A s.heap [(h0, .inr (5, [.ref q1, .int (nI 0), .ref q2, .int (nI 0), .int (nI 0)])), (q1, .inl (G.2.1, 120, .inl (fun k9 => nI 0))), (q2, .inl (G.2.2.2.2.2.1, 6, .inr (.inr (.inr (.inr (fun _ => none))))))] H locs := hX
  refine lv_aload_n hC.1 hC.2.1 dX5_init_31 rfl (lv_at hl 0 rfl) ?_
  refine lv_iconst (v := nI 1) hC.1 hC.2.1 dX5_init_32 rfl ?_
  refine y_put hC hK (C := RX5) (T := TX5) (N := 5) (ci := 5) fi_X5_init_X5 tyX5 tyX5_ok nmX5 hX 0 rfl rfl 4 (by decide) (wd9 hC 10 rfl) (fun _ h => h) rfl (ty := tyX5 4) (v := .int (nI 1)) (tyX5_ok 4 (by decide)) rfl rfl (Nat.le_of_ble_eq_true rfl) dX5_init_33 (fun H locs hX => ?_)
  replace hX : HH G A s.heap [(h0, .inr (5, [.ref q1, .int (nI 0), .ref q2, .int (nI 0), .int (nI 1)])), (q1, .inl (G.2.1, 120, .inl (fun k9 => nI 0))), (q2, .inl (G.2.2.2.2.2.1, 6, .inr (.inr (.inr (.inr (fun _ => none))))))] H locs := hX
  refine r_return hC hr hlk (w := fun w9 : va_W => w9) hX dX5_init_36 ?_
  exact ⟨q1, q2, rfl⟩
theorem fi_X0_init_X0 : ∀ w ∈ wsX00, w ∈ wsX0_init := by decide +kernel
theorem fi_X0_init_X5 : ∀ w ∈ wsX50, w ∈ wsX0_init := by decide +kernel
theorem hd_X5_init_i : yX5_init.cls ≠ "java/lang/invoke/MethodHandle" ∧ yX5_init.cls ≠ "java/lang/invoke/VarHandle" ∧ (parseMethodDescriptor yX5_init.desc).map (fun d => d.parameters.length) = some 0 := by decide +kernel
set_option maxHeartbeats 4000000 in
set_option maxRecDepth 100000 in
theorem c_X0_init (l : Launch) (G : GX) (h0 : Nat) : CtO l yX0_init wsX0_init { frames := 2, cells := 13, slots := 528, locals := 40 } G (fun w9 : va_W => w9) [(h0, .inr (0, [.null, .int (nI 0)]))] [.ref h0] (fun w9 => ∃ q1 q2 q3 q4 q5 q6 q7 q8 q9 q10 q11 q12 q13, w9 = [(h0, .inr (0, [.ref q1, .int (nI 0)])), (q1, .inl (G.2.2.2.2.2.2, 4, .inr (.inr (.inr (.inr (va_up (va_up (va_up (va_up (fun _ => none) 0 (some q2)) 1 (some q5)) 2 (some q8)) 3 (some q11))))))), (q2, .inr (5, [.ref q3, .int (nI 0), .ref q4, .int (nI 0), .int (nI 1)])), (q3, .inl (G.2.1, 120, .inl (fun k9 => nI 0))), (q4, .inl (G.2.2.2.2.2.1, 6, .inr (.inr (.inr (.inr (fun _ => none)))))), (q5, .inr (5, [.ref q6, .int (nI 0), .ref q7, .int (nI 0), .int (nI 1)])), (q6, .inl (G.2.1, 120, .inl (fun k9 => nI 0))), (q7, .inl (G.2.2.2.2.2.1, 6, .inr (.inr (.inr (.inr (fun _ => none)))))), (q8, .inr (5, [.ref q9, .int (nI 0), .ref q10, .int (nI 0), .int (nI 1)])), (q9, .inl (G.2.1, 120, .inl (fun k9 => nI 0))), (q10, .inl (G.2.2.2.2.2.1, 6, .inr (.inr (.inr (.inr (fun _ => none)))))), (q11, .inr (5, [.ref q12, .int (nI 0), .ref q13, .int (nI 0), .int (nI 1)])), (q12, .inl (G.2.1, 120, .inl (fun k9 => nI 0))), (q13, .inl (G.2.2.2.2.2.1, 6, .inr (.inr (.inr (.inr (fun _ => none))))))]) 13 528 := by
  refine CtO.of (cc := cX0_init) (maxL := 2) (ret := none) (by decide +kernel) rfl (Nat.le_of_ble_eq_true rfl) ?_
  intro p e s m args below meth c ls A hC hr hlk hin hK hO hA hX hl
  have hl : lv_has ls 2 [(0, .ref h0)] := hl
  skip
  refine lv_aload_n hC.1 hC.2.1 dX0_init_0 rfl (lv_at hl 0 rfl) ?_
  refine y_objInit hC (a := h0) (wd9 hC 1 rfl) (wd9 hC 2 rfl) (wd9 hC 3 rfl) hl.1 dX0_init_1 (Nat.le_of_ble_eq_true rfl) (Nat.le_of_ble_eq_true rfl) ?_
  refine lv_aload_n hC.1 hC.2.1 dX0_init_4 rfl (lv_at hl 0 rfl) ?_
  refine lv_iconst (v := nI 4) hC.1 hC.2.1 dX0_init_5 rfl ?_
  refine y_newq hC hK hX hA (wd9 hC 4 rfl) hO.2 (N := 4) (cB := G.2.2.2.2.2.2) (i := 5) rfl (by decide) (Nat.le_of_ble_eq_true rfl) (Nat.le_of_ble_eq_true rfl) dX0_init_6 (fun q1 H hX => ?_)
  replace hX : HH G A s.heap [(h0, .inr (0, [.null, .int (nI 0)])), (q1, .inl (G.2.2.2.2.2.2, 4, .inr (.inr (.inr (.inr (fun _ => none))))))] H [] := hX
  refine y_putF hC hK (C := RX0) (T := TX0) (N := 2) (ci := 0) fi_X0_init_X0 tyX0 tyX0_ok nmX0 hX 0 rfl rfl 0 (by decide) (wd9 hC 5 rfl) (fun _ h => h) rfl (hin rfl) rfl (ty := tyX0 0) (v := .ref q1) (tyX0_ok 0 (by decide)) rfl rfl (Nat.le_of_ble_eq_true rfl) dX0_init_9 (fun H locs hX => ?_)
  replace hX : HH G A s.heap [(h0, .inr (0, [.ref q1, .int (nI 0)])), (q1, .inl (G.2.2.2.2.2.2, 4, .inr (.inr (.inr (.inr (fun _ => none))))))] H locs := hX
  refine lv_aload_n hC.1 hC.2.1 dX0_init_12 rfl (lv_at hl 0 rfl) ?_
  refine lv_iconst (v := nI 0) hC.1 hC.2.1 dX0_init_13 rfl ?_
  refine y_put hC hK (C := RX0) (T := TX0) (N := 2) (ci := 0) fi_X0_init_X0 tyX0 tyX0_ok nmX0 hX 0 rfl rfl 1 (by decide) (wd9 hC 6 rfl) (fun _ h => h) rfl (ty := tyX0 1) (v := .int (nI 0)) (tyX0_ok 1 (by decide)) rfl rfl (Nat.le_of_ble_eq_true rfl) dX0_init_14 (fun H locs hX => ?_)
  replace hX : HH G A s.heap [(h0, .inr (0, [.ref q1, .int (nI 0)])), (q1, .inl (G.2.2.2.2.2.2, 4, .inr (.inr (.inr (.inr (fun _ => none))))))] H locs := hX
  refine lv_iconst (v := nI 0) hC.1 hC.2.1 dX0_init_17 rfl ?_
  refine lv_istore_n (lv' := [(1, .int (nI 0)), (0, .ref h0)]) hC.1 hC.2.1 dX0_init_18 rfl hl (by decide) rfl (fun ls hl => ?_)
  refine lv_iload_n hC.1 hC.2.1 dX0_init_19 rfl (lv_at hl 0 rfl) ?_
  refine lv_iconst (v := nI 4) hC.1 hC.2.1 dX0_init_20 rfl ?_
  refine n_icmp_ge hC (a := 0) (b := 4) (tgt := 43) dX0_init_21 (by decide) (by decide) (by decide) (fun c9 => absurd c9 (by decide)) (fun c9 => ?_)
  refine lv_aload_n hC.1 hC.2.1 dX0_init_24 rfl (lv_at hl 1 rfl) ?_
  refine y_get hC hK (C := RX0) (T := TX0) (N := 2) (ci := 0) fi_X0_init_X0 hX 0 rfl rfl 0 (by decide) (wd9 hC 5 rfl) (fun _ h => h) (v := .ref q1) rfl dX0_init_25 ?_
  refine lv_iload_n hC.1 hC.2.1 dX0_init_28 rfl (lv_at hl 0 rfl) ?_
  refine y_new hC hK (C := RX5) (T := TX5) (N := 5) (ci := 5) (fs := [.null, .int (nI 0), .null, .int (nI 0), .int (nI 0)]) fi_X0_init_X5 tyX5 tyX5_ok hX hA (wd9 hC 4 rfl) (wd9 hC 7 rfl) (wd9 hC 8 rfl) rfl (fun j hj => by
    rcases (show j = 0 ∨ j = 1 ∨ j = 2 ∨ j = 3 ∨ j = 4 by omega) with rfl | rfl | rfl | rfl | rfl <;> rfl) (Nat.le_of_ble_eq_true rfl) (Nat.le_of_ble_eq_true rfl) dX0_init_29 (fun q2 H hX => ?_)
  replace hX : HH G A s.heap [(h0, .inr (0, [.ref q1, .int (nI 0)])), (q1, .inl (G.2.2.2.2.2.2, 4, .inr (.inr (.inr (.inr (fun _ => none)))))), (q2, .inr (5, [.null, .int (nI 0), .null, .int (nI 0), .int (nI 0)]))] H locs := hX
  refine lv_dup hC.1 hC.2.1 dX0_init_32 rfl ?_
  refine y_initON (w := fun w9 : va_W => [(h0, .inr (0, [.ref q1, .int (nI 0)])), (q1, .inl (G.2.2.2.2.2.2, 4, .inr (.inr (.inr (.inr (fun _ => none))))))] ++ w9) (S := [(q2, .inr (5, [.null, .int (nI 0), .null, .int (nI 0), .int (nI 0)]))]) (As := []) (rest := [.ref q2, .int (nI 0), .ref q1]) hC hK hO hA hX ((c_X5_init l G q2).frameL [(h0, .inr (0, [.ref q1, .int (nI 0)])), (q1, .inl (G.2.2.2.2.2.2, 4, .inr (.inr (.inr (.inr (fun _ => none))))))]) ⟨va_cnB 0 hC.2.2.2.2 gX0_init_X5_init_n21 rfl rfl rfl (hK.2.2 _ (List.mem_of_getElem? (i := 5) rfl)) (wd9 hC 8 rfl) hd_X5_init_i ⟨Nat.le_of_ble_eq_true rfl, Nat.le_of_ble_eq_true rfl⟩, rfl, (wd9 hC 9 rfl)⟩ dX0_init_33 rfl hl.1 rfl (Nat.le_of_ble_eq_true rfl) ⟨(Nat.le_of_ble_eq_true rfl), (Nat.le_of_ble_eq_true rfl)⟩ (fun S9 H locs hp9 hX => ?_)
  obtain ⟨q3, q4, rfl⟩ := hp9
  replace hX : HH G A s.heap [(h0, .inr (0, [.ref q1, .int (nI 0)])), (q1, .inl (G.2.2.2.2.2.2, 4, .inr (.inr (.inr (.inr (fun _ => none)))))), (q2, .inr (5, [.ref q3, .int (nI 0), .ref q4, .int (nI 0), .int (nI 1)])), (q3, .inl (G.2.1, 120, .inl (fun k9 => nI 0))), (q4, .inl (G.2.2.2.2.2.1, 6, .inr (.inr (.inr (.inr (fun _ => none))))))] H locs := hX
  refine y_astq hC hK hX 1 5 2 5 (r := (RX5, TX5, 5)) (f := fun _ => none) rfl rfl rfl rfl (i := 0) (by decide) (by decide) dX0_init_36 (fun H locs hX => ?_)
  replace hX : HH G A s.heap [(h0, .inr (0, [.ref q1, .int (nI 0)])), (q1, .inl (G.2.2.2.2.2.2, 4, .inr (.inr (.inr (.inr (va_up (fun _ => none) 0 (some q2))))))), (q2, .inr (5, [.ref q3, .int (nI 0), .ref q4, .int (nI 0), .int (nI 1)])), (q3, .inl (G.2.1, 120, .inl (fun k9 => nI 0))), (q4, .inl (G.2.2.2.2.2.1, 6, .inr (.inr (.inr (.inr (fun _ => none))))))] H locs := hX
  refine lv_iinc (v := nI 1) (lv' := [(1, .int (nI 1)), (0, .ref h0)]) hC.1 hC.2.1 dX0_init_37 hl (k := 0) rfl (n_inc1 _) (by decide) rfl (fun ls hl => ?_)
  refine lv_goto (tgt := 19) hC.1 hC.2.1 dX0_init_40 (by decide) ?_
  refine lv_iload_n hC.1 hC.2.1 dX0_init_19 rfl (lv_at hl 0 rfl) ?_
  refine lv_iconst (v := nI 4) hC.1 hC.2.1 dX0_init_20 rfl ?_
  refine n_icmp_ge hC (a := 1) (b := 4) (tgt := 43) dX0_init_21 (by decide) (by decide) (by decide) (fun c9 => absurd c9 (by decide)) (fun c9 => ?_)
  refine lv_aload_n hC.1 hC.2.1 dX0_init_24 rfl (lv_at hl 1 rfl) ?_
  refine y_get hC hK (C := RX0) (T := TX0) (N := 2) (ci := 0) fi_X0_init_X0 hX 0 rfl rfl 0 (by decide) (wd9 hC 5 rfl) (fun _ h => h) (v := .ref q1) rfl dX0_init_25 ?_
  refine lv_iload_n hC.1 hC.2.1 dX0_init_28 rfl (lv_at hl 0 rfl) ?_
  refine y_new hC hK (C := RX5) (T := TX5) (N := 5) (ci := 5) (fs := [.null, .int (nI 0), .null, .int (nI 0), .int (nI 0)]) fi_X0_init_X5 tyX5 tyX5_ok hX hA (wd9 hC 4 rfl) (wd9 hC 7 rfl) (wd9 hC 8 rfl) rfl (fun j hj => by
    rcases (show j = 0 ∨ j = 1 ∨ j = 2 ∨ j = 3 ∨ j = 4 by omega) with rfl | rfl | rfl | rfl | rfl <;> rfl) (Nat.le_of_ble_eq_true rfl) (Nat.le_of_ble_eq_true rfl) dX0_init_29 (fun q5 H hX => ?_)
  replace hX : HH G A s.heap [(h0, .inr (0, [.ref q1, .int (nI 0)])), (q1, .inl (G.2.2.2.2.2.2, 4, .inr (.inr (.inr (.inr (va_up (fun _ => none) 0 (some q2))))))), (q2, .inr (5, [.ref q3, .int (nI 0), .ref q4, .int (nI 0), .int (nI 1)])), (q3, .inl (G.2.1, 120, .inl (fun k9 => nI 0))), (q4, .inl (G.2.2.2.2.2.1, 6, .inr (.inr (.inr (.inr (fun _ => none)))))), (q5, .inr (5, [.null, .int (nI 0), .null, .int (nI 0), .int (nI 0)]))] H locs := hX
  refine lv_dup hC.1 hC.2.1 dX0_init_32 rfl ?_
  refine y_initON (w := fun w9 : va_W => [(h0, .inr (0, [.ref q1, .int (nI 0)])), (q1, .inl (G.2.2.2.2.2.2, 4, .inr (.inr (.inr (.inr (va_up (fun _ => none) 0 (some q2))))))), (q2, .inr (5, [.ref q3, .int (nI 0), .ref q4, .int (nI 0), .int (nI 1)])), (q3, .inl (G.2.1, 120, .inl (fun k9 => nI 0))), (q4, .inl (G.2.2.2.2.2.1, 6, .inr (.inr (.inr (.inr (fun _ => none))))))] ++ w9) (S := [(q5, .inr (5, [.null, .int (nI 0), .null, .int (nI 0), .int (nI 0)]))]) (As := []) (rest := [.ref q5, .int (nI 1), .ref q1]) hC hK hO hA hX ((c_X5_init l G q5).frameL [(h0, .inr (0, [.ref q1, .int (nI 0)])), (q1, .inl (G.2.2.2.2.2.2, 4, .inr (.inr (.inr (.inr (va_up (fun _ => none) 0 (some q2))))))), (q2, .inr (5, [.ref q3, .int (nI 0), .ref q4, .int (nI 0), .int (nI 1)])), (q3, .inl (G.2.1, 120, .inl (fun k9 => nI 0))), (q4, .inl (G.2.2.2.2.2.1, 6, .inr (.inr (.inr (.inr (fun _ => none))))))]) ⟨va_cnB 0 hC.2.2.2.2 gX0_init_X5_init_n21 rfl rfl rfl (hK.2.2 _ (List.mem_of_getElem? (i := 5) rfl)) (wd9 hC 8 rfl) hd_X5_init_i ⟨Nat.le_of_ble_eq_true rfl, Nat.le_of_ble_eq_true rfl⟩, rfl, (wd9 hC 9 rfl)⟩ dX0_init_33 rfl hl.1 rfl (Nat.le_of_ble_eq_true rfl) ⟨(Nat.le_of_ble_eq_true rfl), (Nat.le_of_ble_eq_true rfl)⟩ (fun S9 H locs hp9 hX => ?_)
  obtain ⟨q6, q7, rfl⟩ := hp9
  replace hX : HH G A s.heap [(h0, .inr (0, [.ref q1, .int (nI 0)])), (q1, .inl (G.2.2.2.2.2.2, 4, .inr (.inr (.inr (.inr (va_up (fun _ => none) 0 (some q2))))))), (q2, .inr (5, [.ref q3, .int (nI 0), .ref q4, .int (nI 0), .int (nI 1)])), (q3, .inl (G.2.1, 120, .inl (fun k9 => nI 0))), (q4, .inl (G.2.2.2.2.2.1, 6, .inr (.inr (.inr (.inr (fun _ => none)))))), (q5, .inr (5, [.ref q6, .int (nI 0), .ref q7, .int (nI 0), .int (nI 1)])), (q6, .inl (G.2.1, 120, .inl (fun k9 => nI 0))), (q7, .inl (G.2.2.2.2.2.1, 6, .inr (.inr (.inr (.inr (fun _ => none))))))] H locs := hX
  refine y_astq hC hK hX 1 5 5 5 (r := (RX5, TX5, 5)) (f := va_up (fun _ => none) 0 (some q2)) rfl rfl rfl rfl (i := 1) (by decide) (by decide) dX0_init_36 (fun H locs hX => ?_)
  replace hX : HH G A s.heap [(h0, .inr (0, [.ref q1, .int (nI 0)])), (q1, .inl (G.2.2.2.2.2.2, 4, .inr (.inr (.inr (.inr (va_up (va_up (fun _ => none) 0 (some q2)) 1 (some q5))))))), (q2, .inr (5, [.ref q3, .int (nI 0), .ref q4, .int (nI 0), .int (nI 1)])), (q3, .inl (G.2.1, 120, .inl (fun k9 => nI 0))), (q4, .inl (G.2.2.2.2.2.1, 6, .inr (.inr (.inr (.inr (fun _ => none)))))), (q5, .inr (5, [.ref q6, .int (nI 0), .ref q7, .int (nI 0), .int (nI 1)])), (q6, .inl (G.2.1, 120, .inl (fun k9 => nI 0))), (q7, .inl (G.2.2.2.2.2.1, 6, .inr (.inr (.inr (.inr (fun _ => none))))))] H locs := hX
  refine lv_iinc (v := nI 2) (lv' := [(1, .int (nI 2)), (0, .ref h0)]) hC.1 hC.2.1 dX0_init_37 hl (k := 0) rfl (n_inc1 _) (by decide) rfl (fun ls hl => ?_)
  refine lv_goto (tgt := 19) hC.1 hC.2.1 dX0_init_40 (by decide) ?_
  refine lv_iload_n hC.1 hC.2.1 dX0_init_19 rfl (lv_at hl 0 rfl) ?_
  refine lv_iconst (v := nI 4) hC.1 hC.2.1 dX0_init_20 rfl ?_
  refine n_icmp_ge hC (a := 2) (b := 4) (tgt := 43) dX0_init_21 (by decide) (by decide) (by decide) (fun c9 => absurd c9 (by decide)) (fun c9 => ?_)
  refine lv_aload_n hC.1 hC.2.1 dX0_init_24 rfl (lv_at hl 1 rfl) ?_
  refine y_get hC hK (C := RX0) (T := TX0) (N := 2) (ci := 0) fi_X0_init_X0 hX 0 rfl rfl 0 (by decide) (wd9 hC 5 rfl) (fun _ h => h) (v := .ref q1) rfl dX0_init_25 ?_
  refine lv_iload_n hC.1 hC.2.1 dX0_init_28 rfl (lv_at hl 0 rfl) ?_
  refine y_new hC hK (C := RX5) (T := TX5) (N := 5) (ci := 5) (fs := [.null, .int (nI 0), .null, .int (nI 0), .int (nI 0)]) fi_X0_init_X5 tyX5 tyX5_ok hX hA (wd9 hC 4 rfl) (wd9 hC 7 rfl) (wd9 hC 8 rfl) rfl (fun j hj => by
    rcases (show j = 0 ∨ j = 1 ∨ j = 2 ∨ j = 3 ∨ j = 4 by omega) with rfl | rfl | rfl | rfl | rfl <;> rfl) (Nat.le_of_ble_eq_true rfl) (Nat.le_of_ble_eq_true rfl) dX0_init_29 (fun q8 H hX => ?_)
  replace hX : HH G A s.heap [(h0, .inr (0, [.ref q1, .int (nI 0)])), (q1, .inl (G.2.2.2.2.2.2, 4, .inr (.inr (.inr (.inr (va_up (va_up (fun _ => none) 0 (some q2)) 1 (some q5))))))), (q2, .inr (5, [.ref q3, .int (nI 0), .ref q4, .int (nI 0), .int (nI 1)])), (q3, .inl (G.2.1, 120, .inl (fun k9 => nI 0))), (q4, .inl (G.2.2.2.2.2.1, 6, .inr (.inr (.inr (.inr (fun _ => none)))))), (q5, .inr (5, [.ref q6, .int (nI 0), .ref q7, .int (nI 0), .int (nI 1)])), (q6, .inl (G.2.1, 120, .inl (fun k9 => nI 0))), (q7, .inl (G.2.2.2.2.2.1, 6, .inr (.inr (.inr (.inr (fun _ => none)))))), (q8, .inr (5, [.null, .int (nI 0), .null, .int (nI 0), .int (nI 0)]))] H locs := hX
  refine lv_dup hC.1 hC.2.1 dX0_init_32 rfl ?_
  refine y_initON (w := fun w9 : va_W => [(h0, .inr (0, [.ref q1, .int (nI 0)])), (q1, .inl (G.2.2.2.2.2.2, 4, .inr (.inr (.inr (.inr (va_up (va_up (fun _ => none) 0 (some q2)) 1 (some q5))))))), (q2, .inr (5, [.ref q3, .int (nI 0), .ref q4, .int (nI 0), .int (nI 1)])), (q3, .inl (G.2.1, 120, .inl (fun k9 => nI 0))), (q4, .inl (G.2.2.2.2.2.1, 6, .inr (.inr (.inr (.inr (fun _ => none)))))), (q5, .inr (5, [.ref q6, .int (nI 0), .ref q7, .int (nI 0), .int (nI 1)])), (q6, .inl (G.2.1, 120, .inl (fun k9 => nI 0))), (q7, .inl (G.2.2.2.2.2.1, 6, .inr (.inr (.inr (.inr (fun _ => none))))))] ++ w9) (S := [(q8, .inr (5, [.null, .int (nI 0), .null, .int (nI 0), .int (nI 0)]))]) (As := []) (rest := [.ref q8, .int (nI 2), .ref q1]) hC hK hO hA hX ((c_X5_init l G q8).frameL [(h0, .inr (0, [.ref q1, .int (nI 0)])), (q1, .inl (G.2.2.2.2.2.2, 4, .inr (.inr (.inr (.inr (va_up (va_up (fun _ => none) 0 (some q2)) 1 (some q5))))))), (q2, .inr (5, [.ref q3, .int (nI 0), .ref q4, .int (nI 0), .int (nI 1)])), (q3, .inl (G.2.1, 120, .inl (fun k9 => nI 0))), (q4, .inl (G.2.2.2.2.2.1, 6, .inr (.inr (.inr (.inr (fun _ => none)))))), (q5, .inr (5, [.ref q6, .int (nI 0), .ref q7, .int (nI 0), .int (nI 1)])), (q6, .inl (G.2.1, 120, .inl (fun k9 => nI 0))), (q7, .inl (G.2.2.2.2.2.1, 6, .inr (.inr (.inr (.inr (fun _ => none))))))]) ⟨va_cnB 0 hC.2.2.2.2 gX0_init_X5_init_n21 rfl rfl rfl (hK.2.2 _ (List.mem_of_getElem? (i := 5) rfl)) (wd9 hC 8 rfl) hd_X5_init_i ⟨Nat.le_of_ble_eq_true rfl, Nat.le_of_ble_eq_true rfl⟩, rfl, (wd9 hC 9 rfl)⟩ dX0_init_33 rfl hl.1 rfl (Nat.le_of_ble_eq_true rfl) ⟨(Nat.le_of_ble_eq_true rfl), (Nat.le_of_ble_eq_true rfl)⟩ (fun S9 H locs hp9 hX => ?_)
  obtain ⟨q9, q10, rfl⟩ := hp9
  replace hX : HH G A s.heap [(h0, .inr (0, [.ref q1, .int (nI 0)])), (q1, .inl (G.2.2.2.2.2.2, 4, .inr (.inr (.inr (.inr (va_up (va_up (fun _ => none) 0 (some q2)) 1 (some q5))))))), (q2, .inr (5, [.ref q3, .int (nI 0), .ref q4, .int (nI 0), .int (nI 1)])), (q3, .inl (G.2.1, 120, .inl (fun k9 => nI 0))), (q4, .inl (G.2.2.2.2.2.1, 6, .inr (.inr (.inr (.inr (fun _ => none)))))), (q5, .inr (5, [.ref q6, .int (nI 0), .ref q7, .int (nI 0), .int (nI 1)])), (q6, .inl (G.2.1, 120, .inl (fun k9 => nI 0))), (q7, .inl (G.2.2.2.2.2.1, 6, .inr (.inr (.inr (.inr (fun _ => none)))))), (q8, .inr (5, [.ref q9, .int (nI 0), .ref q10, .int (nI 0), .int (nI 1)])), (q9, .inl (G.2.1, 120, .inl (fun k9 => nI 0))), (q10, .inl (G.2.2.2.2.2.1, 6, .inr (.inr (.inr (.inr (fun _ => none))))))] H locs := hX
  refine y_astq hC hK hX 1 5 8 5 (r := (RX5, TX5, 5)) (f := va_up (va_up (fun _ => none) 0 (some q2)) 1 (some q5)) rfl rfl rfl rfl (i := 2) (by decide) (by decide) dX0_init_36 (fun H locs hX => ?_)
  replace hX : HH G A s.heap [(h0, .inr (0, [.ref q1, .int (nI 0)])), (q1, .inl (G.2.2.2.2.2.2, 4, .inr (.inr (.inr (.inr (va_up (va_up (va_up (fun _ => none) 0 (some q2)) 1 (some q5)) 2 (some q8))))))), (q2, .inr (5, [.ref q3, .int (nI 0), .ref q4, .int (nI 0), .int (nI 1)])), (q3, .inl (G.2.1, 120, .inl (fun k9 => nI 0))), (q4, .inl (G.2.2.2.2.2.1, 6, .inr (.inr (.inr (.inr (fun _ => none)))))), (q5, .inr (5, [.ref q6, .int (nI 0), .ref q7, .int (nI 0), .int (nI 1)])), (q6, .inl (G.2.1, 120, .inl (fun k9 => nI 0))), (q7, .inl (G.2.2.2.2.2.1, 6, .inr (.inr (.inr (.inr (fun _ => none)))))), (q8, .inr (5, [.ref q9, .int (nI 0), .ref q10, .int (nI 0), .int (nI 1)])), (q9, .inl (G.2.1, 120, .inl (fun k9 => nI 0))), (q10, .inl (G.2.2.2.2.2.1, 6, .inr (.inr (.inr (.inr (fun _ => none))))))] H locs := hX
  refine lv_iinc (v := nI 3) (lv' := [(1, .int (nI 3)), (0, .ref h0)]) hC.1 hC.2.1 dX0_init_37 hl (k := 0) rfl (n_inc1 _) (by decide) rfl (fun ls hl => ?_)
  refine lv_goto (tgt := 19) hC.1 hC.2.1 dX0_init_40 (by decide) ?_
  refine lv_iload_n hC.1 hC.2.1 dX0_init_19 rfl (lv_at hl 0 rfl) ?_
  refine lv_iconst (v := nI 4) hC.1 hC.2.1 dX0_init_20 rfl ?_
  refine n_icmp_ge hC (a := 3) (b := 4) (tgt := 43) dX0_init_21 (by decide) (by decide) (by decide) (fun c9 => absurd c9 (by decide)) (fun c9 => ?_)
  refine lv_aload_n hC.1 hC.2.1 dX0_init_24 rfl (lv_at hl 1 rfl) ?_
  refine y_get hC hK (C := RX0) (T := TX0) (N := 2) (ci := 0) fi_X0_init_X0 hX 0 rfl rfl 0 (by decide) (wd9 hC 5 rfl) (fun _ h => h) (v := .ref q1) rfl dX0_init_25 ?_
  refine lv_iload_n hC.1 hC.2.1 dX0_init_28 rfl (lv_at hl 0 rfl) ?_
  refine y_new hC hK (C := RX5) (T := TX5) (N := 5) (ci := 5) (fs := [.null, .int (nI 0), .null, .int (nI 0), .int (nI 0)]) fi_X0_init_X5 tyX5 tyX5_ok hX hA (wd9 hC 4 rfl) (wd9 hC 7 rfl) (wd9 hC 8 rfl) rfl (fun j hj => by
    rcases (show j = 0 ∨ j = 1 ∨ j = 2 ∨ j = 3 ∨ j = 4 by omega) with rfl | rfl | rfl | rfl | rfl <;> rfl) (Nat.le_of_ble_eq_true rfl) (Nat.le_of_ble_eq_true rfl) dX0_init_29 (fun q11 H hX => ?_)
  replace hX : HH G A s.heap [(h0, .inr (0, [.ref q1, .int (nI 0)])), (q1, .inl (G.2.2.2.2.2.2, 4, .inr (.inr (.inr (.inr (va_up (va_up (va_up (fun _ => none) 0 (some q2)) 1 (some q5)) 2 (some q8))))))), (q2, .inr (5, [.ref q3, .int (nI 0), .ref q4, .int (nI 0), .int (nI 1)])), (q3, .inl (G.2.1, 120, .inl (fun k9 => nI 0))), (q4, .inl (G.2.2.2.2.2.1, 6, .inr (.inr (.inr (.inr (fun _ => none)))))), (q5, .inr (5, [.ref q6, .int (nI 0), .ref q7, .int (nI 0), .int (nI 1)])), (q6, .inl (G.2.1, 120, .inl (fun k9 => nI 0))), (q7, .inl (G.2.2.2.2.2.1, 6, .inr (.inr (.inr (.inr (fun _ => none)))))), (q8, .inr (5, [.ref q9, .int (nI 0), .ref q10, .int (nI 0), .int (nI 1)])), (q9, .inl (G.2.1, 120, .inl (fun k9 => nI 0))), (q10, .inl (G.2.2.2.2.2.1, 6, .inr (.inr (.inr (.inr (fun _ => none)))))), (q11, .inr (5, [.null, .int (nI 0), .null, .int (nI 0), .int (nI 0)]))] H locs := hX
  refine lv_dup hC.1 hC.2.1 dX0_init_32 rfl ?_
  refine y_initON (w := fun w9 : va_W => [(h0, .inr (0, [.ref q1, .int (nI 0)])), (q1, .inl (G.2.2.2.2.2.2, 4, .inr (.inr (.inr (.inr (va_up (va_up (va_up (fun _ => none) 0 (some q2)) 1 (some q5)) 2 (some q8))))))), (q2, .inr (5, [.ref q3, .int (nI 0), .ref q4, .int (nI 0), .int (nI 1)])), (q3, .inl (G.2.1, 120, .inl (fun k9 => nI 0))), (q4, .inl (G.2.2.2.2.2.1, 6, .inr (.inr (.inr (.inr (fun _ => none)))))), (q5, .inr (5, [.ref q6, .int (nI 0), .ref q7, .int (nI 0), .int (nI 1)])), (q6, .inl (G.2.1, 120, .inl (fun k9 => nI 0))), (q7, .inl (G.2.2.2.2.2.1, 6, .inr (.inr (.inr (.inr (fun _ => none)))))), (q8, .inr (5, [.ref q9, .int (nI 0), .ref q10, .int (nI 0), .int (nI 1)])), (q9, .inl (G.2.1, 120, .inl (fun k9 => nI 0))), (q10, .inl (G.2.2.2.2.2.1, 6, .inr (.inr (.inr (.inr (fun _ => none))))))] ++ w9) (S := [(q11, .inr (5, [.null, .int (nI 0), .null, .int (nI 0), .int (nI 0)]))]) (As := []) (rest := [.ref q11, .int (nI 3), .ref q1]) hC hK hO hA hX ((c_X5_init l G q11).frameL [(h0, .inr (0, [.ref q1, .int (nI 0)])), (q1, .inl (G.2.2.2.2.2.2, 4, .inr (.inr (.inr (.inr (va_up (va_up (va_up (fun _ => none) 0 (some q2)) 1 (some q5)) 2 (some q8))))))), (q2, .inr (5, [.ref q3, .int (nI 0), .ref q4, .int (nI 0), .int (nI 1)])), (q3, .inl (G.2.1, 120, .inl (fun k9 => nI 0))), (q4, .inl (G.2.2.2.2.2.1, 6, .inr (.inr (.inr (.inr (fun _ => none)))))), (q5, .inr (5, [.ref q6, .int (nI 0), .ref q7, .int (nI 0), .int (nI 1)])), (q6, .inl (G.2.1, 120, .inl (fun k9 => nI 0))), (q7, .inl (G.2.2.2.2.2.1, 6, .inr (.inr (.inr (.inr (fun _ => none)))))), (q8, .inr (5, [.ref q9, .int (nI 0), .ref q10, .int (nI 0), .int (nI 1)])), (q9, .inl (G.2.1, 120, .inl (fun k9 => nI 0))), (q10, .inl (G.2.2.2.2.2.1, 6, .inr (.inr (.inr (.inr (fun _ => none))))))]) ⟨va_cnB 0 hC.2.2.2.2 gX0_init_X5_init_n21 rfl rfl rfl (hK.2.2 _ (List.mem_of_getElem? (i := 5) rfl)) (wd9 hC 8 rfl) hd_X5_init_i ⟨Nat.le_of_ble_eq_true rfl, Nat.le_of_ble_eq_true rfl⟩, rfl, (wd9 hC 9 rfl)⟩ dX0_init_33 rfl hl.1 rfl (Nat.le_of_ble_eq_true rfl) ⟨(Nat.le_of_ble_eq_true rfl), (Nat.le_of_ble_eq_true rfl)⟩ (fun S9 H locs hp9 hX => ?_)
  obtain ⟨q12, q13, rfl⟩ := hp9
  replace hX : HH G A s.heap [(h0, .inr (0, [.ref q1, .int (nI 0)])), (q1, .inl (G.2.2.2.2.2.2, 4, .inr (.inr (.inr (.inr (va_up (va_up (va_up (fun _ => none) 0 (some q2)) 1 (some q5)) 2 (some q8))))))), (q2, .inr (5, [.ref q3, .int (nI 0), .ref q4, .int (nI 0), .int (nI 1)])), (q3, .inl (G.2.1, 120, .inl (fun k9 => nI 0))), (q4, .inl (G.2.2.2.2.2.1, 6, .inr (.inr (.inr (.inr (fun _ => none)))))), (q5, .inr (5, [.ref q6, .int (nI 0), .ref q7, .int (nI 0), .int (nI 1)])), (q6, .inl (G.2.1, 120, .inl (fun k9 => nI 0))), (q7, .inl (G.2.2.2.2.2.1, 6, .inr (.inr (.inr (.inr (fun _ => none)))))), (q8, .inr (5, [.ref q9, .int (nI 0), .ref q10, .int (nI 0), .int (nI 1)])), (q9, .inl (G.2.1, 120, .inl (fun k9 => nI 0))), (q10, .inl (G.2.2.2.2.2.1, 6, .inr (.inr (.inr (.inr (fun _ => none)))))), (q11, .inr (5, [.ref q12, .int (nI 0), .ref q13, .int (nI 0), .int (nI 1)])), (q12, .inl (G.2.1, 120, .inl (fun k9 => nI 0))), (q13, .inl (G.2.2.2.2.2.1, 6, .inr (.inr (.inr (.inr (fun _ => none))))))] H locs := hX
  refine y_astq hC hK hX 1 5 11 5 (r := (RX5, TX5, 5)) (f := va_up (va_up (va_up (fun _ => none) 0 (some q2)) 1 (some q5)) 2 (some q8)) rfl rfl rfl rfl (i := 3) (by decide) (by decide) dX0_init_36 (fun H locs hX => ?_)
  replace hX : HH G A s.heap [(h0, .inr (0, [.ref q1, .int (nI 0)])), (q1, .inl (G.2.2.2.2.2.2, 4, .inr (.inr (.inr (.inr (va_up (va_up (va_up (va_up (fun _ => none) 0 (some q2)) 1 (some q5)) 2 (some q8)) 3 (some q11))))))), (q2, .inr (5, [.ref q3, .int (nI 0), .ref q4, .int (nI 0), .int (nI 1)])), (q3, .inl (G.2.1, 120, .inl (fun k9 => nI 0))), (q4, .inl (G.2.2.2.2.2.1, 6, .inr (.inr (.inr (.inr (fun _ => none)))))), (q5, .inr (5, [.ref q6, .int (nI 0), .ref q7, .int (nI 0), .int (nI 1)])), (q6, .inl (G.2.1, 120, .inl (fun k9 => nI 0))), (q7, .inl (G.2.2.2.2.2.1, 6, .inr (.inr (.inr (.inr (fun _ => none)))))), (q8, .inr (5, [.ref q9, .int (nI 0), .ref q10, .int (nI 0), .int (nI 1)])), (q9, .inl (G.2.1, 120, .inl (fun k9 => nI 0))), (q10, .inl (G.2.2.2.2.2.1, 6, .inr (.inr (.inr (.inr (fun _ => none)))))), (q11, .inr (5, [.ref q12, .int (nI 0), .ref q13, .int (nI 0), .int (nI 1)])), (q12, .inl (G.2.1, 120, .inl (fun k9 => nI 0))), (q13, .inl (G.2.2.2.2.2.1, 6, .inr (.inr (.inr (.inr (fun _ => none))))))] H locs := hX
  refine lv_iinc (v := nI 4) (lv' := [(1, .int (nI 4)), (0, .ref h0)]) hC.1 hC.2.1 dX0_init_37 hl (k := 0) rfl (n_inc1 _) (by decide) rfl (fun ls hl => ?_)
  refine lv_goto (tgt := 19) hC.1 hC.2.1 dX0_init_40 (by decide) ?_
  refine lv_iload_n hC.1 hC.2.1 dX0_init_19 rfl (lv_at hl 0 rfl) ?_
  refine lv_iconst (v := nI 4) hC.1 hC.2.1 dX0_init_20 rfl ?_
  refine n_icmp_ge hC (a := 4) (b := 4) (tgt := 43) dX0_init_21 (by decide) (by decide) (by decide) (fun c9 => ?_) (fun c9 => absurd c9 (by decide))
  refine r_return hC hr hlk (w := fun w9 : va_W => w9) hX dX0_init_43 ?_
  exact ⟨q1, q2, q3, q4, q5, q6, q7, q8, q9, q10, q11, q12, q13, rfl⟩
theorem fi_X1_init_X1 : ∀ w ∈ wsX10, w ∈ wsX1_init := by decide +kernel
set_option maxHeartbeats 4000000 in
set_option maxRecDepth 100000 in
theorem c_X1_init (l : Launch) (G : GX) (h0 : Nat) : CtO l yX1_init wsX1_init { frames := 1, cells := 1, slots := 60, locals := 20 } G (fun w9 : va_W => w9) [(h0, .inr (1, [.null, .int (nI 0)]))] [.ref h0] (fun w9 => ∃ q1, w9 = [(h0, .inr (1, [.ref q1, .int (nI 0)])), (q1, .inl (G.2.1, 60, .inl (fun k9 => nI 0)))]) 1 60 := by
  refine CtO.of (cc := cX1_init) (maxL := 1) (ret := none) (by decide +kernel) rfl (Nat.le_of_ble_eq_true rfl) ?_
  intro p e s m args below meth c ls A hC hr hlk hin hK hO hA hX hl
  have hl : lv_has ls 1 [(0, .ref h0)] := hl
  skip
  refine lv_aload_n hC.1 hC.2.1 dX1_init_0 rfl (lv_at hl 0 rfl) ?_
  refine y_objInit hC (a := h0) (wd9 hC 1 rfl) (wd9 hC 2 rfl) (wd9 hC 3 rfl) hl.1 dX1_init_1 (Nat.le_of_ble_eq_true rfl) (Nat.le_of_ble_eq_true rfl) ?_
  refine lv_aload_n hC.1 hC.2.1 dX1_init_4 rfl (lv_at hl 0 rfl) ?_
  refine lv_bipush (v := nI 60) hC.1 hC.2.1 dX1_init_5 (by decide +kernel) ?_
  refine y_newa hC hK hX hA (atype := .char) (a0 := (60, .inl (fun k9 => nI 0))) (N := 60) (cB := G.2.1) (i := 0) (wd9 hC 4 rfl) (fun _ => rfl) rfl (by decide) (Nat.le_of_ble_eq_true rfl) (Nat.le_of_ble_eq_true rfl) dX1_init_7 (fun q1 H hX => ?_)
  replace hX : HH G A s.heap [(h0, .inr (1, [.null, .int (nI 0)])), (q1, .inl (G.2.1, 60, .inl (fun k9 => nI 0)))] H [] := hX
  refine y_putF hC hK (C := RX1) (T := TX1) (N := 2) (ci := 1) fi_X1_init_X1 tyX1 tyX1_ok nmX1 hX 0 rfl rfl 0 (by decide) (wd9 hC 5 rfl) (fun _ h => h) rfl (hin rfl) rfl (ty := tyX1 0) (v := .ref q1) (tyX1_ok 0 (by decide)) rfl rfl (Nat.le_of_ble_eq_true rfl) dX1_init_9 (fun H locs hX => ?_)
  replace hX : HH G A s.heap [(h0, .inr (1, [.ref q1, .int (nI 0)])), (q1, .inl (G.2.1, 60, .inl (fun k9 => nI 0)))] H locs := hX
  refine lv_aload_n hC.1 hC.2.1 dX1_init_12 rfl (lv_at hl 0 rfl) ?_
  refine lv_iconst (v := nI 0) hC.1 hC.2.1 dX1_init_13 rfl ?_
  refine y_put hC hK (C := RX1) (T := TX1) (N := 2) (ci := 1) fi_X1_init_X1 tyX1 tyX1_ok nmX1 hX 0 rfl rfl 1 (by decide) (wd9 hC 6 rfl) (fun _ h => h) rfl (ty := tyX1 1) (v := .int (nI 0)) (tyX1_ok 1 (by decide)) rfl rfl (Nat.le_of_ble_eq_true rfl) dX1_init_14 (fun H locs hX => ?_)
  replace hX : HH G A s.heap [(h0, .inr (1, [.ref q1, .int (nI 0)])), (q1, .inl (G.2.1, 60, .inl (fun k9 => nI 0)))] H locs := hX
  refine r_return hC hr hlk (w := fun w9 : va_W => w9) hX dX1_init_17 ?_
  exact ⟨q1, rfl⟩
theorem fi_X3_init_X3 : ∀ w ∈ wsX30, w ∈ wsX3_init := by decide +kernel
set_option maxHeartbeats 4000000 in
set_option maxRecDepth 100000 in
theorem c_X3_init (l : Launch) (G : GX) (h0 : Nat) : CtO l yX3_init wsX3_init { frames := 1, cells := 1, slots := 60, locals := 20 } G (fun w9 : va_W => w9) [(h0, .inr (3, [.null, .int (nI 0), .int (bI false), .int (nI 0), .int (bI false), .int (nI 0), .int (nI 0)]))] [.ref h0] (fun w9 => ∃ q1, w9 = [(h0, .inr (3, [.ref q1, .int (nI 0), .int (bI false), .int (nI 0), .int (bI false), .int (nI 0), .int (nI 97)])), (q1, .inl (G.2.2.1, 60, .inl (fun k9 => nI 0)))]) 1 60 := by
  refine CtO.of (cc := cX3_init) (maxL := 1) (ret := none) (by decide +kernel) rfl (Nat.le_of_ble_eq_true rfl) ?_
  intro p e s m args below meth c ls A hC hr hlk hin hK hO hA hX hl
  have hl : lv_has ls 1 [(0, .ref h0)] := hl
  skip
  refine lv_aload_n hC.1 hC.2.1 dX3_init_0 rfl (lv_at hl 0 rfl) ?_
  refine y_objInit hC (a := h0) (wd9 hC 1 rfl) (wd9 hC 2 rfl) (wd9 hC 3 rfl) hl.1 dX3_init_1 (Nat.le_of_ble_eq_true rfl) (Nat.le_of_ble_eq_true rfl) ?_
  refine lv_aload_n hC.1 hC.2.1 dX3_init_4 rfl (lv_at hl 0 rfl) ?_
  refine lv_bipush (v := nI 60) hC.1 hC.2.1 dX3_init_5 (by decide +kernel) ?_
  refine y_newa hC hK hX hA (atype := .int) (a0 := (60, .inl (fun k9 => nI 0))) (N := 60) (cB := G.2.2.1) (i := 1) (wd9 hC 4 rfl) (fun _ => rfl) rfl (by decide) (Nat.le_of_ble_eq_true rfl) (Nat.le_of_ble_eq_true rfl) dX3_init_7 (fun q1 H hX => ?_)
  replace hX : HH G A s.heap [(h0, .inr (3, [.null, .int (nI 0), .int (bI false), .int (nI 0), .int (bI false), .int (nI 0), .int (nI 0)])), (q1, .inl (G.2.2.1, 60, .inl (fun k9 => nI 0)))] H [] := hX
  refine y_putF hC hK (C := RX3) (T := TX3) (N := 7) (ci := 3) fi_X3_init_X3 tyX3 tyX3_ok nmX3 hX 0 rfl rfl 0 (by decide) (wd9 hC 5 rfl) (fun _ h => h) rfl (hin rfl) rfl (ty := tyX3 0) (v := .ref q1) (tyX3_ok 0 (by decide)) rfl rfl (Nat.le_of_ble_eq_true rfl) dX3_init_9 (fun H locs hX => ?_)
  replace hX : HH G A s.heap [(h0, .inr (3, [.ref q1, .int (nI 0), .int (bI false), .int (nI 0), .int (bI false), .int (nI 0), .int (nI 0)])), (q1, .inl (G.2.2.1, 60, .inl (fun k9 => nI 0)))] H locs := hX
  refine lv_aload_n hC.1 hC.2.1 dX3_init_12 rfl (lv_at hl 0 rfl) ?_
  refine lv_iconst (v := nI 0) hC.1 hC.2.1 dX3_init_13 rfl ?_
  refine y_put hC hK (C := RX3) (T := TX3) (N := 7) (ci := 3) fi_X3_init_X3 tyX3 tyX3_ok nmX3 hX 0 rfl rfl 1 (by decide) (wd9 hC 6 rfl) (fun _ h => h) rfl (ty := tyX3 1) (v := .int (nI 0)) (tyX3_ok 1 (by decide)) rfl rfl (Nat.le_of_ble_eq_true rfl) dX3_init_14 (fun H locs hX => ?_)
  replace hX : HH G A s.heap [(h0, .inr (3, [.ref q1, .int (nI 0), .int (bI false), .int (nI 0), .int (bI false), .int (nI 0), .int (nI 0)])), (q1, .inl (G.2.2.1, 60, .inl (fun k9 => nI 0)))] H locs := hX
  refine lv_aload_n hC.1 hC.2.1 dX3_init_17 rfl (lv_at hl 0 rfl) ?_
  refine lv_iconst (v := nI 0) hC.1 hC.2.1 dX3_init_18 rfl ?_
  refine y_put hC hK (C := RX3) (T := TX3) (N := 7) (ci := 3) fi_X3_init_X3 tyX3 tyX3_ok nmX3 hX 0 rfl rfl 2 (by decide) (wd9 hC 7 rfl) (fun _ h => h) rfl (ty := tyX3 2) (v := .int (bI false)) (tyX3_ok 2 (by decide)) (by decide +kernel) (by decide +kernel) (Nat.le_of_ble_eq_true rfl) dX3_init_19 (fun H locs hX => ?_)
  replace hX : HH G A s.heap [(h0, .inr (3, [.ref q1, .int (nI 0), .int (bI false), .int (nI 0), .int (bI false), .int (nI 0), .int (nI 0)])), (q1, .inl (G.2.2.1, 60, .inl (fun k9 => nI 0)))] H locs := hX
  refine lv_aload_n hC.1 hC.2.1 dX3_init_22 rfl (lv_at hl 0 rfl) ?_
  refine lv_iconst (v := nI 0) hC.1 hC.2.1 dX3_init_23 rfl ?_
  refine y_put hC hK (C := RX3) (T := TX3) (N := 7) (ci := 3) fi_X3_init_X3 tyX3 tyX3_ok nmX3 hX 0 rfl rfl 3 (by decide) (wd9 hC 8 rfl) (fun _ h => h) rfl (ty := tyX3 3) (v := .int (nI 0)) (tyX3_ok 3 (by decide)) rfl rfl (Nat.le_of_ble_eq_true rfl) dX3_init_24 (fun H locs hX => ?_)
  replace hX : HH G A s.heap [(h0, .inr (3, [.ref q1, .int (nI 0), .int (bI false), .int (nI 0), .int (bI false), .int (nI 0), .int (nI 0)])), (q1, .inl (G.2.2.1, 60, .inl (fun k9 => nI 0)))] H locs := hX
  refine lv_aload_n hC.1 hC.2.1 dX3_init_27 rfl (lv_at hl 0 rfl) ?_
  refine lv_iconst (v := nI 0) hC.1 hC.2.1 dX3_init_28 rfl ?_
  refine y_put hC hK (C := RX3) (T := TX3) (N := 7) (ci := 3) fi_X3_init_X3 tyX3 tyX3_ok nmX3 hX 0 rfl rfl 4 (by decide) (wd9 hC 9 rfl) (fun _ h => h) rfl (ty := tyX3 4) (v := .int (bI false)) (tyX3_ok 4 (by decide)) (by decide +kernel) (by decide +kernel) (Nat.le_of_ble_eq_true rfl) dX3_init_29 (fun H locs hX => ?_)
  replace hX : HH G A s.heap [(h0, .inr (3, [.ref q1, .int (nI 0), .int (bI false), .int (nI 0), .int (bI false), .int (nI 0), .int (nI 0)])), (q1, .inl (G.2.2.1, 60, .inl (fun k9 => nI 0)))] H locs := hX
  refine lv_aload_n hC.1 hC.2.1 dX3_init_32 rfl (lv_at hl 0 rfl) ?_
  refine lv_iconst (v := nI 0) hC.1 hC.2.1 dX3_init_33 rfl ?_
  refine y_put hC hK (C := RX3) (T := TX3) (N := 7) (ci := 3) fi_X3_init_X3 tyX3 tyX3_ok nmX3 hX 0 rfl rfl 5 (by decide) (wd9 hC 10 rfl) (fun _ h => h) rfl (ty := tyX3 5) (v := .int (nI 0)) (tyX3_ok 5 (by decide)) rfl rfl (Nat.le_of_ble_eq_true rfl) dX3_init_34 (fun H locs hX => ?_)
  replace hX : HH G A s.heap [(h0, .inr (3, [.ref q1, .int (nI 0), .int (bI false), .int (nI 0), .int (bI false), .int (nI 0), .int (nI 0)])), (q1, .inl (G.2.2.1, 60, .inl (fun k9 => nI 0)))] H locs := hX
  refine lv_aload_n hC.1 hC.2.1 dX3_init_37 rfl (lv_at hl 0 rfl) ?_
  refine lv_bipush (v := nI 97) hC.1 hC.2.1 dX3_init_38 (by decide +kernel) ?_
  refine y_put hC hK (C := RX3) (T := TX3) (N := 7) (ci := 3) fi_X3_init_X3 tyX3 tyX3_ok nmX3 hX 0 rfl rfl 6 (by decide) (wd9 hC 11 rfl) (fun _ h => h) rfl (ty := tyX3 6) (v := .int (nI 97)) (tyX3_ok 6 (by decide)) (by decide +kernel) (by decide +kernel) (Nat.le_of_ble_eq_true rfl) dX3_init_40 (fun H locs hX => ?_)
  replace hX : HH G A s.heap [(h0, .inr (3, [.ref q1, .int (nI 0), .int (bI false), .int (nI 0), .int (bI false), .int (nI 0), .int (nI 97)])), (q1, .inl (G.2.2.1, 60, .inl (fun k9 => nI 0)))] H locs := hX
  refine r_return hC hr hlk (w := fun w9 : va_W => w9) hX dX3_init_43 ?_
  exact ⟨q1, rfl⟩
theorem fi_X4_init_X4 : ∀ w ∈ wsX40, w ∈ wsX4_init := by decide +kernel
set_option maxHeartbeats 4000000 in
set_option maxRecDepth 100000 in
theorem c_X4_init (l : Launch) (G : GX) (h0 : Nat) : CtO l yX4_init wsX4_init { frames := 1, cells := 7, slots := 670, locals := 20 } G (fun w9 : va_W => w9) [(h0, .inr (4, [.null, .null, .null, .null, .null, .null, .null, .int (nI 0)]))] [.ref h0] (fun w9 => ∃ q1 q2 q3 q4 q5 q6 q7, w9 = [(h0, .inr (4, [.ref q1, .ref q2, .ref q3, .ref q4, .ref q5, .ref q6, .ref q7, .int (nI 0)])), (q1, .inl (G.2.2.2.1, 5, .inr (.inl (fun k9 => lN 0)))), (q2, .inl (G.2.2.1, 61, .inl (fun k9 => nI 0))), (q3, .inl (G.2.2.1, 121, .inl (fun k9 => nI 0))), (q4, .inl (G.2.2.1, 121, .inl (fun k9 => nI 0))), (q5, .inl (G.2.2.2.2.1, 121, .inl (fun k9 => bI false))), (q6, .inl (G.2.1, 120, .inl (fun k9 => nI 0))), (q7, .inl (G.2.2.1, 121, .inl (fun k9 => nI 0)))]) 7 670 := by
  refine CtO.of (cc := cX4_init) (maxL := 1) (ret := none) (by decide +kernel) rfl (Nat.le_of_ble_eq_true rfl) ?_
  intro p e s m args below meth c ls A hC hr hlk hin hK hO hA hX hl
  have hl : lv_has ls 1 [(0, .ref h0)] := hl
  skip
  refine lv_aload_n hC.1 hC.2.1 dX4_init_0 rfl (lv_at hl 0 rfl) ?_
  refine y_objInit hC (a := h0) (wd9 hC 1 rfl) (wd9 hC 2 rfl) (wd9 hC 3 rfl) hl.1 dX4_init_1 (Nat.le_of_ble_eq_true rfl) (Nat.le_of_ble_eq_true rfl) ?_
  refine lv_aload_n hC.1 hC.2.1 dX4_init_4 rfl (lv_at hl 0 rfl) ?_
  refine lv_iconst (v := nI 5) hC.1 hC.2.1 dX4_init_5 rfl ?_
  refine y_newa hC hK hX hA (atype := .long) (a0 := (5, .inr (.inl (fun k9 => lN 0)))) (N := 5) (cB := G.2.2.2.1) (i := 2) (wd9 hC 4 rfl) (fun _ => rfl) rfl (by decide) (Nat.le_of_ble_eq_true rfl) (Nat.le_of_ble_eq_true rfl) dX4_init_6 (fun q1 H hX => ?_)
  replace hX : HH G A s.heap [(h0, .inr (4, [.null, .null, .null, .null, .null, .null, .null, .int (nI 0)])), (q1, .inl (G.2.2.2.1, 5, .inr (.inl (fun k9 => lN 0))))] H [] := hX
  refine y_putF hC hK (C := RX4) (T := TX4) (N := 8) (ci := 4) fi_X4_init_X4 tyX4 tyX4_ok nmX4 hX 0 rfl rfl 0 (by decide) (wd9 hC 5 rfl) (fun _ h => h) rfl (hin rfl) rfl (ty := tyX4 0) (v := .ref q1) (tyX4_ok 0 (by decide)) rfl rfl (Nat.le_of_ble_eq_true rfl) dX4_init_8 (fun H locs hX => ?_)
  replace hX : HH G A s.heap [(h0, .inr (4, [.ref q1, .null, .null, .null, .null, .null, .null, .int (nI 0)])), (q1, .inl (G.2.2.2.1, 5, .inr (.inl (fun k9 => lN 0))))] H locs := hX
  refine lv_aload_n hC.1 hC.2.1 dX4_init_11 rfl (lv_at hl 0 rfl) ?_
  refine lv_bipush (v := nI 61) hC.1 hC.2.1 dX4_init_12 (by decide +kernel) ?_
  refine y_newa hC hK hX hA (atype := .int) (a0 := (61, .inl (fun k9 => nI 0))) (N := 61) (cB := G.2.2.1) (i := 1) (wd9 hC 6 rfl) (fun _ => rfl) rfl (by decide) (Nat.le_of_ble_eq_true rfl) (Nat.le_of_ble_eq_true rfl) dX4_init_14 (fun q2 H hX => ?_)
  replace hX : HH G A s.heap [(h0, .inr (4, [.ref q1, .null, .null, .null, .null, .null, .null, .int (nI 0)])), (q1, .inl (G.2.2.2.1, 5, .inr (.inl (fun k9 => lN 0)))), (q2, .inl (G.2.2.1, 61, .inl (fun k9 => nI 0)))] H locs := hX
  refine y_putF hC hK (C := RX4) (T := TX4) (N := 8) (ci := 4) fi_X4_init_X4 tyX4 tyX4_ok nmX4 hX 0 rfl rfl 1 (by decide) (wd9 hC 7 rfl) (fun _ h => h) rfl (hin rfl) rfl (ty := tyX4 1) (v := .ref q2) (tyX4_ok 1 (by decide)) rfl rfl (Nat.le_of_ble_eq_true rfl) dX4_init_16 (fun H locs hX => ?_)
  replace hX : HH G A s.heap [(h0, .inr (4, [.ref q1, .ref q2, .null, .null, .null, .null, .null, .int (nI 0)])), (q1, .inl (G.2.2.2.1, 5, .inr (.inl (fun k9 => lN 0)))), (q2, .inl (G.2.2.1, 61, .inl (fun k9 => nI 0)))] H locs := hX
  refine lv_aload_n hC.1 hC.2.1 dX4_init_19 rfl (lv_at hl 0 rfl) ?_
  refine lv_bipush (v := nI 121) hC.1 hC.2.1 dX4_init_20 (by decide +kernel) ?_
  refine y_newa hC hK hX hA (atype := .int) (a0 := (121, .inl (fun k9 => nI 0))) (N := 121) (cB := G.2.2.1) (i := 1) (wd9 hC 6 rfl) (fun _ => rfl) rfl (by decide) (Nat.le_of_ble_eq_true rfl) (Nat.le_of_ble_eq_true rfl) dX4_init_22 (fun q3 H hX => ?_)
  replace hX : HH G A s.heap [(h0, .inr (4, [.ref q1, .ref q2, .null, .null, .null, .null, .null, .int (nI 0)])), (q1, .inl (G.2.2.2.1, 5, .inr (.inl (fun k9 => lN 0)))), (q2, .inl (G.2.2.1, 61, .inl (fun k9 => nI 0))), (q3, .inl (G.2.2.1, 121, .inl (fun k9 => nI 0)))] H locs := hX
  refine y_putF hC hK (C := RX4) (T := TX4) (N := 8) (ci := 4) fi_X4_init_X4 tyX4 tyX4_ok nmX4 hX 0 rfl rfl 2 (by decide) (wd9 hC 8 rfl) (fun _ h => h) rfl (hin rfl) rfl (ty := tyX4 2) (v := .ref q3) (tyX4_ok 2 (by decide)) rfl rfl (Nat.le_of_ble_eq_true rfl) dX4_init_24 (fun H locs hX => ?_)
  replace hX : HH G A s.heap [(h0, .inr (4, [.ref q1, .ref q2, .ref q3, .null, .null, .null, .null, .int (nI 0)])), (q1, .inl (G.2.2.2.1, 5, .inr (.inl (fun k9 => lN 0)))), (q2, .inl (G.2.2.1, 61, .inl (fun k9 => nI 0))), (q3, .inl (G.2.2.1, 121, .inl (fun k9 => nI 0)))] H locs := hX
  refine lv_aload_n hC.1 hC.2.1 dX4_init_27 rfl (lv_at hl 0 rfl) ?_
  refine lv_bipush (v := nI 121) hC.1 hC.2.1 dX4_init_28 (by decide +kernel) ?_
  refine y_newa hC hK hX hA (atype := .int) (a0 := (121, .inl (fun k9 => nI 0))) (N := 121) (cB := G.2.2.1) (i := 1) (wd9 hC 6 rfl) (fun _ => rfl) rfl (by decide) (Nat.le_of_ble_eq_true rfl) (Nat.le_of_ble_eq_true rfl) dX4_init_30 (fun q4 H hX => ?_)
  replace hX : HH G A s.heap [(h0, .inr (4, [.ref q1, .ref q2, .ref q3, .null, .null, .null, .null, .int (nI 0)])), (q1, .inl (G.2.2.2.1, 5, .inr (.inl (fun k9 => lN 0)))), (q2, .inl (G.2.2.1, 61, .inl (fun k9 => nI 0))), (q3, .inl (G.2.2.1, 121, .inl (fun k9 => nI 0))), (q4, .inl (G.2.2.1, 121, .inl (fun k9 => nI 0)))] H locs := hX
  refine y_putF hC hK (C := RX4) (T := TX4) (N := 8) (ci := 4) fi_X4_init_X4 tyX4 tyX4_ok nmX4 hX 0 rfl rfl 3 (by decide) (wd9 hC 9 rfl) (fun _ h => h) rfl (hin rfl) rfl (ty := tyX4 3) (v := .ref q4) (tyX4_ok 3 (by decide)) rfl rfl (Nat.le_of_ble_eq_true rfl) dX4_init_32 (fun H locs hX => ?_)
  replace hX : HH G A s.heap [(h0, .inr (4, [.ref q1, .ref q2, .ref q3, .ref q4, .null, .null, .null, .int (nI 0)])), (q1, .inl (G.2.2.2.1, 5, .inr (.inl (fun k9 => lN 0)))), (q2, .inl (G.2.2.1, 61, .inl (fun k9 => nI 0))), (q3, .inl (G.2.2.1, 121, .inl (fun k9 => nI 0))), (q4, .inl (G.2.2.1, 121, .inl (fun k9 => nI 0)))] H locs := hX
  refine lv_aload_n hC.1 hC.2.1 dX4_init_35 rfl (lv_at hl 0 rfl) ?_
  refine lv_bipush (v := nI 121) hC.1 hC.2.1 dX4_init_36 (by decide +kernel) ?_
  refine y_newa hC hK hX hA (atype := .boolean) (a0 := (121, .inl (fun k9 => bI false))) (N := 121) (cB := G.2.2.2.2.1) (i := 3) (wd9 hC 10 rfl) (fun _ => rfl) rfl (by decide) (Nat.le_of_ble_eq_true rfl) (Nat.le_of_ble_eq_true rfl) dX4_init_38 (fun q5 H hX => ?_)
  replace hX : HH G A s.heap [(h0, .inr (4, [.ref q1, .ref q2, .ref q3, .ref q4, .null, .null, .null, .int (nI 0)])), (q1, .inl (G.2.2.2.1, 5, .inr (.inl (fun k9 => lN 0)))), (q2, .inl (G.2.2.1, 61, .inl (fun k9 => nI 0))), (q3, .inl (G.2.2.1, 121, .inl (fun k9 => nI 0))), (q4, .inl (G.2.2.1, 121, .inl (fun k9 => nI 0))), (q5, .inl (G.2.2.2.2.1, 121, .inl (fun k9 => bI false)))] H locs := hX
  refine y_putF hC hK (C := RX4) (T := TX4) (N := 8) (ci := 4) fi_X4_init_X4 tyX4 tyX4_ok nmX4 hX 0 rfl rfl 4 (by decide) (wd9 hC 11 rfl) (fun _ h => h) rfl (hin rfl) rfl (ty := tyX4 4) (v := .ref q5) (tyX4_ok 4 (by decide)) rfl rfl (Nat.le_of_ble_eq_true rfl) dX4_init_40 (fun H locs hX => ?_)
  replace hX : HH G A s.heap [(h0, .inr (4, [.ref q1, .ref q2, .ref q3, .ref q4, .ref q5, .null, .null, .int (nI 0)])), (q1, .inl (G.2.2.2.1, 5, .inr (.inl (fun k9 => lN 0)))), (q2, .inl (G.2.2.1, 61, .inl (fun k9 => nI 0))), (q3, .inl (G.2.2.1, 121, .inl (fun k9 => nI 0))), (q4, .inl (G.2.2.1, 121, .inl (fun k9 => nI 0))), (q5, .inl (G.2.2.2.2.1, 121, .inl (fun k9 => bI false)))] H locs := hX
  refine lv_aload_n hC.1 hC.2.1 dX4_init_43 rfl (lv_at hl 0 rfl) ?_
  refine lv_bipush (v := nI 120) hC.1 hC.2.1 dX4_init_44 (by decide +kernel) ?_
  refine y_newa hC hK hX hA (atype := .char) (a0 := (120, .inl (fun k9 => nI 0))) (N := 120) (cB := G.2.1) (i := 0) (wd9 hC 12 rfl) (fun _ => rfl) rfl (by decide) (Nat.le_of_ble_eq_true rfl) (Nat.le_of_ble_eq_true rfl) dX4_init_46 (fun q6 H hX => ?_)
  replace hX : HH G A s.heap [(h0, .inr (4, [.ref q1, .ref q2, .ref q3, .ref q4, .ref q5, .null, .null, .int (nI 0)])), (q1, .inl (G.2.2.2.1, 5, .inr (.inl (fun k9 => lN 0)))), (q2, .inl (G.2.2.1, 61, .inl (fun k9 => nI 0))), (q3, .inl (G.2.2.1, 121, .inl (fun k9 => nI 0))), (q4, .inl (G.2.2.1, 121, .inl (fun k9 => nI 0))), (q5, .inl (G.2.2.2.2.1, 121, .inl (fun k9 => bI false))), (q6, .inl (G.2.1, 120, .inl (fun k9 => nI 0)))] H locs := hX
  refine y_putF hC hK (C := RX4) (T := TX4) (N := 8) (ci := 4) fi_X4_init_X4 tyX4 tyX4_ok nmX4 hX 0 rfl rfl 5 (by decide) (wd9 hC 13 rfl) (fun _ h => h) rfl (hin rfl) rfl (ty := tyX4 5) (v := .ref q6) (tyX4_ok 5 (by decide)) rfl rfl (Nat.le_of_ble_eq_true rfl) dX4_init_48 (fun H locs hX => ?_)
  replace hX : HH G A s.heap [(h0, .inr (4, [.ref q1, .ref q2, .ref q3, .ref q4, .ref q5, .ref q6, .null, .int (nI 0)])), (q1, .inl (G.2.2.2.1, 5, .inr (.inl (fun k9 => lN 0)))), (q2, .inl (G.2.2.1, 61, .inl (fun k9 => nI 0))), (q3, .inl (G.2.2.1, 121, .inl (fun k9 => nI 0))), (q4, .inl (G.2.2.1, 121, .inl (fun k9 => nI 0))), (q5, .inl (G.2.2.2.2.1, 121, .inl (fun k9 => bI false))), (q6, .inl (G.2.1, 120, .inl (fun k9 => nI 0)))] H locs := hX
  refine lv_aload_n hC.1 hC.2.1 dX4_init_51 rfl (lv_at hl 0 rfl) ?_
  refine lv_bipush (v := nI 121) hC.1 hC.2.1 dX4_init_52 (by decide +kernel) ?_
  refine y_newa hC hK hX hA (atype := .int) (a0 := (121, .inl (fun k9 => nI 0))) (N := 121) (cB := G.2.2.1) (i := 1) (wd9 hC 6 rfl) (fun _ => rfl) rfl (by decide) (Nat.le_of_ble_eq_true rfl) (Nat.le_of_ble_eq_true rfl) dX4_init_54 (fun q7 H hX => ?_)
  replace hX : HH G A s.heap [(h0, .inr (4, [.ref q1, .ref q2, .ref q3, .ref q4, .ref q5, .ref q6, .null, .int (nI 0)])), (q1, .inl (G.2.2.2.1, 5, .inr (.inl (fun k9 => lN 0)))), (q2, .inl (G.2.2.1, 61, .inl (fun k9 => nI 0))), (q3, .inl (G.2.2.1, 121, .inl (fun k9 => nI 0))), (q4, .inl (G.2.2.1, 121, .inl (fun k9 => nI 0))), (q5, .inl (G.2.2.2.2.1, 121, .inl (fun k9 => bI false))), (q6, .inl (G.2.1, 120, .inl (fun k9 => nI 0))), (q7, .inl (G.2.2.1, 121, .inl (fun k9 => nI 0)))] H locs := hX
  refine y_putF hC hK (C := RX4) (T := TX4) (N := 8) (ci := 4) fi_X4_init_X4 tyX4 tyX4_ok nmX4 hX 0 rfl rfl 6 (by decide) (wd9 hC 14 rfl) (fun _ h => h) rfl (hin rfl) rfl (ty := tyX4 6) (v := .ref q7) (tyX4_ok 6 (by decide)) rfl rfl (Nat.le_of_ble_eq_true rfl) dX4_init_56 (fun H locs hX => ?_)
  replace hX : HH G A s.heap [(h0, .inr (4, [.ref q1, .ref q2, .ref q3, .ref q4, .ref q5, .ref q6, .ref q7, .int (nI 0)])), (q1, .inl (G.2.2.2.1, 5, .inr (.inl (fun k9 => lN 0)))), (q2, .inl (G.2.2.1, 61, .inl (fun k9 => nI 0))), (q3, .inl (G.2.2.1, 121, .inl (fun k9 => nI 0))), (q4, .inl (G.2.2.1, 121, .inl (fun k9 => nI 0))), (q5, .inl (G.2.2.2.2.1, 121, .inl (fun k9 => bI false))), (q6, .inl (G.2.1, 120, .inl (fun k9 => nI 0))), (q7, .inl (G.2.2.1, 121, .inl (fun k9 => nI 0)))] H locs := hX
  refine lv_aload_n hC.1 hC.2.1 dX4_init_59 rfl (lv_at hl 0 rfl) ?_
  refine lv_iconst (v := nI 0) hC.1 hC.2.1 dX4_init_60 rfl ?_
  refine y_put hC hK (C := RX4) (T := TX4) (N := 8) (ci := 4) fi_X4_init_X4 tyX4 tyX4_ok nmX4 hX 0 rfl rfl 7 (by decide) (wd9 hC 15 rfl) (fun _ h => h) rfl (ty := tyX4 7) (v := .int (nI 0)) (tyX4_ok 7 (by decide)) rfl rfl (Nat.le_of_ble_eq_true rfl) dX4_init_61 (fun H locs hX => ?_)
  replace hX : HH G A s.heap [(h0, .inr (4, [.ref q1, .ref q2, .ref q3, .ref q4, .ref q5, .ref q6, .ref q7, .int (nI 0)])), (q1, .inl (G.2.2.2.1, 5, .inr (.inl (fun k9 => lN 0)))), (q2, .inl (G.2.2.1, 61, .inl (fun k9 => nI 0))), (q3, .inl (G.2.2.1, 121, .inl (fun k9 => nI 0))), (q4, .inl (G.2.2.1, 121, .inl (fun k9 => nI 0))), (q5, .inl (G.2.2.2.2.1, 121, .inl (fun k9 => bI false))), (q6, .inl (G.2.1, 120, .inl (fun k9 => nI 0))), (q7, .inl (G.2.2.1, 121, .inl (fun k9 => nI 0)))] H locs := hX
  refine r_return hC hr hlk (w := fun w9 : va_W => w9) hX dX4_init_64 ?_
  exact ⟨q1, q2, q3, q4, q5, q6, q7, rfl⟩
theorem fi_X6_init_X6 : ∀ w ∈ wsX60, w ∈ wsX6_init := by decide +kernel
set_option maxHeartbeats 4000000 in
set_option maxRecDepth 100000 in
theorem c_X6_init (l : Launch) (G : GX) (h0 : Nat) : CtO l yX6_init wsX6_init { frames := 1, cells := 1, slots := 61, locals := 20 } G (fun w9 : va_W => w9) [(h0, .inr (6, [.null]))] [.ref h0] (fun w9 => ∃ q1, w9 = [(h0, .inr (6, [.ref q1])), (q1, .inl (G.2.2.1, 61, .inl (fun k9 => nI 0)))]) 1 61 := by
  refine CtO.of (cc := cX6_init) (maxL := 1) (ret := none) (by decide +kernel) rfl (Nat.le_of_ble_eq_true rfl) ?_
  intro p e s m args below meth c ls A hC hr hlk hin hK hO hA hX hl
  have hl : lv_has ls 1 [(0, .ref h0)] := hl
  skip
  refine lv_aload_n hC.1 hC.2.1 dX6_init_0 rfl (lv_at hl 0 rfl) ?_
  refine y_objInit hC (a := h0) (wd9 hC 1 rfl) (wd9 hC 2 rfl) (wd9 hC 3 rfl) hl.1 dX6_init_1 (Nat.le_of_ble_eq_true rfl) (Nat.le_of_ble_eq_true rfl) ?_
  refine lv_aload_n hC.1 hC.2.1 dX6_init_4 rfl (lv_at hl 0 rfl) ?_
  refine lv_bipush (v := nI 61) hC.1 hC.2.1 dX6_init_5 (by decide +kernel) ?_
  refine y_newa hC hK hX hA (atype := .int) (a0 := (61, .inl (fun k9 => nI 0))) (N := 61) (cB := G.2.2.1) (i := 1) (wd9 hC 4 rfl) (fun _ => rfl) rfl (by decide) (Nat.le_of_ble_eq_true rfl) (Nat.le_of_ble_eq_true rfl) dX6_init_7 (fun q1 H hX => ?_)
  replace hX : HH G A s.heap [(h0, .inr (6, [.null])), (q1, .inl (G.2.2.1, 61, .inl (fun k9 => nI 0)))] H [] := hX
  refine y_putF hC hK (C := RX6) (T := TX6) (N := 1) (ci := 6) fi_X6_init_X6 tyX6 tyX6_ok nmX6 hX 0 rfl rfl 0 (by decide) (wd9 hC 5 rfl) (fun _ h => h) rfl (hin rfl) rfl (ty := tyX6 0) (v := .ref q1) (tyX6_ok 0 (by decide)) rfl rfl (Nat.le_of_ble_eq_true rfl) dX6_init_9 (fun H locs hX => ?_)
  replace hX : HH G A s.heap [(h0, .inr (6, [.ref q1])), (q1, .inl (G.2.2.1, 61, .inl (fun k9 => nI 0)))] H locs := hX
  refine r_return hC hr hlk (w := fun w9 : va_W => w9) hX dX6_init_12 ?_
  exact ⟨q1, rfl⟩
