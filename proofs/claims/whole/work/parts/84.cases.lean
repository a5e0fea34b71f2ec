/-! the law's cases -/
theorem lawc_write {p : Program} {l : Launch} {e : Env} {s : State} {m : MethodId} {args : Array Value} {below : List Frame} {meth : Method} {c : Code} {H : Heap} {locs : List Loc} {cells slots : Nat} {Q : State → Prop} {ls : Array Slot} {G : GX} {b L : Nat} {xs : Nat → Int32} {ad am : Nat → Nat} {S : XS} {M : MS} {i : Nat} (hC : CallFix p m c cL_law 8 s args wsL_law RL) (hK : KK G s) (hX0 : va_X b L xs s s.heap) (hbl : b < s.heap.size) (hL : L ≤ 2560) (hi : i + 5 ≤ L) (hX : HH G (fun q => s.heap.size ≤ q) s.heap (wX G ad S ++ wM G am M) H locs) (hI : INV S M) (hl : lv_has ls 8 [(0, .ref b), (1, .ref (ad 34)), (2, .ref (am 0)), (3, .int (nI i))]) (hcs : cells + 3 ≤ 600000) (hsl : slots + 91 ≤ 7302250)
    (kk : ∀ (S2 : XS) (M2 : MS) (H1 : Heap) (locs1 : List Loc) (ls1 : Array Slot), INV S2 M2 → HH G (fun q => s.heap.size ≤ q) s.heap (wX G ad S2 ++ wM G am M2) H1 locs1 → lv_has ls1 8 [(0, .ref b), (1, .ref (ad 34)), (2, .ref (am 0)), (3, .int (nI i))] → W p l e room_1 s m args below meth c H1 locs1 (cells + 3) (slots + 91) Q (F0 m 716 ls1 [])) : W p l e room_1 s m args below meth c H locs cells slots Q (F0 m 132 ls []) := by
  have hA : ∀ q : Nat, s.heap.size ≤ q → (fun q => s.heap.size ≤ q) q := fun _ h => h
  have hd := noDup_of_hh hX
  refine lv_aload_n hC.1 hC.2.1 dL_law_132 rfl (lv_at hl 1 rfl) ?_
  refine law_ld hC hX0 hbl hX hL 1 (by omega) (lv_at hl 0 rfl) (lv_at hl 3 rfl) dL_law_133 dL_law_134 dL_law_135 (by decide) dL_law_136 dL_law_137 ?_
  refine lv_i2c (v := nI (ch16 (xs (i + 1)))) hC.1 hC.2.1 dL_law_138 (ch16_i _) ?_
  refine cv_I (w := fun S9 => wX G ad S9 ++ wM G am M) (S := S) (As := [.int (nI (ch16 (xs (i + 1))))]) (rest := []) hC hK hA hX ((c_X7_write l G ad S hI.1 (ch16 (xs (i + 1))) (ch16_lt _)).frame (wM G am M)) (cwV 1 hC.2.2.2.2 gL_law_X7_write rfl rfl rfl (by decide +kernel) ⟨Nat.le_of_ble_eq_true rfl, Nat.le_of_ble_eq_true rfl⟩) (ci := 7) (q := (RX7, TX7, 8)) rfl (q0 := 34) rfl dL_law_139 rfl hl.1 rfl (Nat.le_of_ble_eq_true rfl) ⟨by show cells + 0 ≤ 600000; omega, by show slots + 0 ≤ 7302250; omega⟩ (fun r9 S9 H9 locs9 hp9 hX9 => ?_)
  replace hX9 : HH G (fun q => s.heap.size ≤ q) s.heap (wX G ad S9 ++ wM G am M) H9 locs9 := hX9
  refine lv_aload_n hC.1 hC.2.1 dL_law_142 rfl (lv_at hl 2 rfl) ?_
  replace hX := hX9
  refine law_ld hC hX0 hbl hX hL 1 (by omega) (lv_at hl 0 rfl) (lv_at hl 3 rfl) dL_law_143 dL_law_144 dL_law_145 (by decide) dL_law_146 dL_law_147 ?_
  refine lv_i2c (v := nI (ch16 (xs (i + 1)))) hC.1 hC.2.1 dL_law_148 (ch16_i _) ?_
  refine cv_I (w := fun M9 => wX G ad S9 ++ wM G am M9) (S := M) (As := [.int (nI (ch16 (xs (i + 1))))]) (rest := [.int r9]) hC hK hA hX ((c_X8_write l G am M hI.2.1 (ch16 (xs (i + 1))) (ch16_lt _)).frameL (wX G ad S9)) (cwV 1 hC.2.2.2.2 gL_law_X8_write rfl rfl rfl (by decide +kernel) ⟨Nat.le_of_ble_eq_true rfl, Nat.le_of_ble_eq_true rfl⟩) (ci := 8) (q := (RX8, TX8, 21)) rfl (q0 := (wX G ad S9).length) (wM_at rfl) dL_law_149 rfl hl.1 rfl (Nat.le_of_ble_eq_true rfl) ⟨by show cells + 0 + 0 ≤ 600000; omega, by show slots + 0 + 0 ≤ 7302250; omega⟩ (fun r8 M9 H8 locs8 hp8 hX8 => ?_)
  replace hX8 : HH G (fun q => s.heap.size ≤ q) s.heap (wX G ad S9 ++ wM G am M9) H8 locs8 := hX8
  obtain ⟨hr9, hI9⟩ := st_write hI  (ch16 (xs (i + 1))) (ch16_lt _) hp9 hp8
  refine W.widen (k := cells + 3) (n := slots + 91) (by omega) (by omega) ?_
  refine lv_icmp_eq (tgt := 716) hC.1 hC.2.1 dL_law_152 (by decide) (fun c9 => ?_) (fun c9 => ?_)
  · exact kk _ _ _ _ _ hI9 hX8 hl
  · exact absurd hr9 c9
theorem lawc_writePad {p : Program} {l : Launch} {e : Env} {s : State} {m : MethodId} {args : Array Value} {below : List Frame} {meth : Method} {c : Code} {H : Heap} {locs : List Loc} {cells slots : Nat} {Q : State → Prop} {ls : Array Slot} {G : GX} {b L : Nat} {xs : Nat → Int32} {ad am : Nat → Nat} {S : XS} {M : MS} {i : Nat} (hC : CallFix p m c cL_law 8 s args wsL_law RL) (hK : KK G s) (hX0 : va_X b L xs s s.heap) (hbl : b < s.heap.size) (hL : L ≤ 2560) (hi : i + 5 ≤ L) (hX : HH G (fun q => s.heap.size ≤ q) s.heap (wX G ad S ++ wM G am M) H locs) (hI : INV S M) (hl : lv_has ls 8 [(0, .ref b), (1, .ref (ad 34)), (2, .ref (am 0)), (3, .int (nI i))]) (hcs : cells + 3 ≤ 600000) (hsl : slots + 91 ≤ 7302250)
    (kk : ∀ (S2 : XS) (M2 : MS) (H1 : Heap) (locs1 : List Loc) (ls1 : Array Slot), INV S2 M2 → HH G (fun q => s.heap.size ≤ q) s.heap (wX G ad S2 ++ wM G am M2) H1 locs1 → lv_has ls1 8 [(0, .ref b), (1, .ref (ad 34)), (2, .ref (am 0)), (3, .int (nI i))] → W p l e room_1 s m args below meth c H1 locs1 (cells + 3) (slots + 91) Q (F0 m 716 ls1 [])) : W p l e room_1 s m args below meth c H locs cells slots Q (F0 m 157 ls []) := by
  have hA : ∀ q : Nat, s.heap.size ≤ q → (fun q => s.heap.size ≤ q) q := fun _ h => h
  have hd := noDup_of_hh hX
  refine lv_aload_n hC.1 hC.2.1 dL_law_157 rfl (lv_at hl 1 rfl) ?_
  refine cv_I (w := fun S9 => wX G ad S9 ++ wM G am M) (S := S) (As := []) (rest := []) hC hK hA hX ((c_X7_writePad l G ad S hI.1 ).frame (wM G am M)) (cwV 0 hC.2.2.2.2 gL_law_X7_writePad rfl rfl rfl (by decide +kernel) ⟨Nat.le_of_ble_eq_true rfl, Nat.le_of_ble_eq_true rfl⟩) (ci := 7) (q := (RX7, TX7, 8)) rfl (q0 := 34) rfl dL_law_158 rfl hl.1 rfl (Nat.le_of_ble_eq_true rfl) ⟨by show cells + 0 ≤ 600000; omega, by show slots + 0 ≤ 7302250; omega⟩ (fun r9 S9 H9 locs9 hp9 hX9 => ?_)
  replace hX9 : HH G (fun q => s.heap.size ≤ q) s.heap (wX G ad S9 ++ wM G am M) H9 locs9 := hX9
  refine lv_aload_n hC.1 hC.2.1 dL_law_161 rfl (lv_at hl 2 rfl) ?_
  replace hX := hX9
  refine cv_I (w := fun M9 => wX G ad S9 ++ wM G am M9) (S := M) (As := []) (rest := [.int r9]) hC hK hA hX ((c_X8_writePad l G am M hI.2.1 ).frameL (wX G ad S9)) (cwV 0 hC.2.2.2.2 gL_law_X8_writePad rfl rfl rfl (by decide +kernel) ⟨Nat.le_of_ble_eq_true rfl, Nat.le_of_ble_eq_true rfl⟩) (ci := 8) (q := (RX8, TX8, 21)) rfl (q0 := (wX G ad S9).length) (wM_at rfl) dL_law_162 rfl hl.1 rfl (Nat.le_of_ble_eq_true rfl) ⟨by show cells + 0 + 0 ≤ 600000; omega, by show slots + 0 + 0 ≤ 7302250; omega⟩ (fun r8 M9 H8 locs8 hp8 hX8 => ?_)
  replace hX8 : HH G (fun q => s.heap.size ≤ q) s.heap (wX G ad S9 ++ wM G am M9) H8 locs8 := hX8
  obtain ⟨hr9, hI9⟩ := st_writePad hI   hp9 hp8
  refine W.widen (k := cells + 3) (n := slots + 91) (by omega) (by omega) ?_
  refine lv_icmp_eq (tgt := 716) hC.1 hC.2.1 dL_law_165 (by decide) (fun c9 => ?_) (fun c9 => ?_)
  · exact kk _ _ _ _ _ hI9 hX8 hl
  · exact absurd hr9 c9
theorem lawc_cut {p : Program} {l : Launch} {e : Env} {s : State} {m : MethodId} {args : Array Value} {below : List Frame} {meth : Method} {c : Code} {H : Heap} {locs : List Loc} {cells slots : Nat} {Q : State → Prop} {ls : Array Slot} {G : GX} {b L : Nat} {xs : Nat → Int32} {ad am : Nat → Nat} {S : XS} {M : MS} {i : Nat} (hC : CallFix p m c cL_law 8 s args wsL_law RL) (hK : KK G s) (hX0 : va_X b L xs s s.heap) (hbl : b < s.heap.size) (hL : L ≤ 2560) (hi : i + 5 ≤ L) (hX : HH G (fun q => s.heap.size ≤ q) s.heap (wX G ad S ++ wM G am M) H locs) (hI : INV S M) (hl : lv_has ls 8 [(0, .ref b), (1, .ref (ad 34)), (2, .ref (am 0)), (3, .int (nI i))]) (hcs : cells + 3 ≤ 600000) (hsl : slots + 91 ≤ 7302250)
    (kk : ∀ (S2 : XS) (M2 : MS) (H1 : Heap) (locs1 : List Loc) (ls1 : Array Slot), INV S2 M2 → HH G (fun q => s.heap.size ≤ q) s.heap (wX G ad S2 ++ wM G am M2) H1 locs1 → lv_has ls1 8 [(0, .ref b), (1, .ref (ad 34)), (2, .ref (am 0)), (3, .int (nI i))] → W p l e room_1 s m args below meth c H1 locs1 (cells + 3) (slots + 91) Q (F0 m 716 ls1 [])) : W p l e room_1 s m args below meth c H locs cells slots Q (F0 m 170 ls []) := by
  have hA : ∀ q : Nat, s.heap.size ≤ q → (fun q => s.heap.size ≤ q) q := fun _ h => h
  have hd := noDup_of_hh hX
  refine lv_aload_n hC.1 hC.2.1 dL_law_170 rfl (lv_at hl 1 rfl) ?_
  refine law_ld hC hX0 hbl hX hL 1 (by omega) (lv_at hl 0 rfl) (lv_at hl 3 rfl) dL_law_171 dL_law_172 dL_law_173 (by decide) dL_law_174 dL_law_175 ?_
  refine cv_I (w := fun S9 => wX G ad S9 ++ wM G am M) (S := S) (As := [.int (xs (i + 1))]) (rest := []) hC hK hA hX ((c_X7_cut l G ad S hI.1 (xs (i + 1))).frame (wM G am M)) (cwV 1 hC.2.2.2.2 gL_law_X7_cut rfl rfl rfl (by decide +kernel) ⟨Nat.le_of_ble_eq_true rfl, Nat.le_of_ble_eq_true rfl⟩) (ci := 7) (q := (RX7, TX7, 8)) rfl (q0 := 34) rfl dL_law_176 rfl hl.1 rfl (Nat.le_of_ble_eq_true rfl) ⟨by show cells + 0 ≤ 600000; omega, by show slots + 0 ≤ 7302250; omega⟩ (fun r9 S9 H9 locs9 hp9 hX9 => ?_)
  replace hX9 : HH G (fun q => s.heap.size ≤ q) s.heap (wX G ad S9 ++ wM G am M) H9 locs9 := hX9
  refine lv_aload_n hC.1 hC.2.1 dL_law_179 rfl (lv_at hl 2 rfl) ?_
  replace hX := hX9
  refine law_ld hC hX0 hbl hX hL 1 (by omega) (lv_at hl 0 rfl) (lv_at hl 3 rfl) dL_law_180 dL_law_181 dL_law_182 (by decide) dL_law_183 dL_law_184 ?_
  refine cv_I (w := fun M9 => wX G ad S9 ++ wM G am M9) (S := M) (As := [.int (xs (i + 1))]) (rest := [.int r9]) hC hK hA hX ((c_X8_cut l G am M hI.2.1 (xs (i + 1))).frameL (wX G ad S9)) (cwV 1 hC.2.2.2.2 gL_law_X8_cut rfl rfl rfl (by decide +kernel) ⟨Nat.le_of_ble_eq_true rfl, Nat.le_of_ble_eq_true rfl⟩) (ci := 8) (q := (RX8, TX8, 21)) rfl (q0 := (wX G ad S9).length) (wM_at rfl) dL_law_185 rfl hl.1 rfl (Nat.le_of_ble_eq_true rfl) ⟨by show cells + 0 + 0 ≤ 600000; omega, by show slots + 0 + 0 ≤ 7302250; omega⟩ (fun r8 M9 H8 locs8 hp8 hX8 => ?_)
  replace hX8 : HH G (fun q => s.heap.size ≤ q) s.heap (wX G ad S9 ++ wM G am M9) H8 locs8 := hX8
  obtain ⟨hr9, hI9⟩ := st_cut hI  (xs (i + 1)) hp9 hp8
  refine W.widen (k := cells + 3) (n := slots + 91) (by omega) (by omega) ?_
  refine lv_icmp_eq (tgt := 716) hC.1 hC.2.1 dL_law_188 (by decide) (fun c9 => ?_) (fun c9 => ?_)
  · exact kk _ _ _ _ _ hI9 hX8 hl
  · exact absurd hr9 c9
theorem lawc_replace {p : Program} {l : Launch} {e : Env} {s : State} {m : MethodId} {args : Array Value} {below : List Frame} {meth : Method} {c : Code} {H : Heap} {locs : List Loc} {cells slots : Nat} {Q : State → Prop} {ls : Array Slot} {G : GX} {b L : Nat} {xs : Nat → Int32} {ad am : Nat → Nat} {S : XS} {M : MS} {i : Nat} (hC : CallFix p m c cL_law 8 s args wsL_law RL) (hK : KK G s) (hX0 : va_X b L xs s s.heap) (hbl : b < s.heap.size) (hL : L ≤ 2560) (hi : i + 5 ≤ L) (hX : HH G (fun q => s.heap.size ≤ q) s.heap (wX G ad S ++ wM G am M) H locs) (hI : INV S M) (hl : lv_has ls 8 [(0, .ref b), (1, .ref (ad 34)), (2, .ref (am 0)), (3, .int (nI i))]) (hcs : cells + 3 ≤ 600000) (hsl : slots + 91 ≤ 7302250)
    (kk : ∀ (S2 : XS) (M2 : MS) (H1 : Heap) (locs1 : List Loc) (ls1 : Array Slot), INV S2 M2 → HH G (fun q => s.heap.size ≤ q) s.heap (wX G ad S2 ++ wM G am M2) H1 locs1 → lv_has ls1 8 [(0, .ref b), (1, .ref (ad 34)), (2, .ref (am 0)), (3, .int (nI i))] → W p l e room_1 s m args below meth c H1 locs1 (cells + 3) (slots + 91) Q (F0 m 716 ls1 [])) : W p l e room_1 s m args below meth c H locs cells slots Q (F0 m 193 ls []) := by
  have hA : ∀ q : Nat, s.heap.size ≤ q → (fun q => s.heap.size ≤ q) q := fun _ h => h
  have hd := noDup_of_hh hX
  refine lv_aload_n hC.1 hC.2.1 dL_law_193 rfl (lv_at hl 1 rfl) ?_
  refine law_ld hC hX0 hbl hX hL 1 (by omega) (lv_at hl 0 rfl) (lv_at hl 3 rfl) dL_law_194 dL_law_195 dL_law_196 (by decide) dL_law_197 dL_law_198 ?_
  refine law_ld hC hX0 hbl hX hL 2 (by omega) (lv_at hl 0 rfl) (lv_at hl 3 rfl) dL_law_199 dL_law_200 dL_law_201 (by decide) dL_law_202 dL_law_203 ?_
  refine lv_i2c (v := nI (ch16 (xs (i + 2)))) hC.1 hC.2.1 dL_law_204 (ch16_i _) ?_
  refine cv_I (w := fun S9 => wX G ad S9 ++ wM G am M) (S := S) (As := [.int (xs (i + 1)), .int (nI (ch16 (xs (i + 2))))]) (rest := []) hC hK hA hX ((c_X7_replace l G ad S hI.1 (xs (i + 1)) (ch16 (xs (i + 2))) (ch16_lt _)).frame (wM G am M)) (cwV 2 hC.2.2.2.2 gL_law_X7_replace rfl rfl rfl (by decide +kernel) ⟨Nat.le_of_ble_eq_true rfl, Nat.le_of_ble_eq_true rfl⟩) (ci := 7) (q := (RX7, TX7, 8)) rfl (q0 := 34) rfl dL_law_205 rfl hl.1 rfl (Nat.le_of_ble_eq_true rfl) ⟨by show cells + 0 ≤ 600000; omega, by show slots + 0 ≤ 7302250; omega⟩ (fun r9 S9 H9 locs9 hp9 hX9 => ?_)
  replace hX9 : HH G (fun q => s.heap.size ≤ q) s.heap (wX G ad S9 ++ wM G am M) H9 locs9 := hX9
  refine lv_aload_n hC.1 hC.2.1 dL_law_208 rfl (lv_at hl 2 rfl) ?_
  replace hX := hX9
  refine law_ld hC hX0 hbl hX hL 1 (by omega) (lv_at hl 0 rfl) (lv_at hl 3 rfl) dL_law_209 dL_law_210 dL_law_211 (by decide) dL_law_212 dL_law_213 ?_
  refine law_ld hC hX0 hbl hX hL 2 (by omega) (lv_at hl 0 rfl) (lv_at hl 3 rfl) dL_law_214 dL_law_215 dL_law_216 (by decide) dL_law_217 dL_law_218 ?_
  refine lv_i2c (v := nI (ch16 (xs (i + 2)))) hC.1 hC.2.1 dL_law_219 (ch16_i _) ?_
  refine cv_I (w := fun M9 => wX G ad S9 ++ wM G am M9) (S := M) (As := [.int (xs (i + 1)), .int (nI (ch16 (xs (i + 2))))]) (rest := [.int r9]) hC hK hA hX ((c_X8_replace l G am M hI.2.1 (xs (i + 1)) (ch16 (xs (i + 2))) (ch16_lt _)).frameL (wX G ad S9)) (cwV 2 hC.2.2.2.2 gL_law_X8_replace rfl rfl rfl (by decide +kernel) ⟨Nat.le_of_ble_eq_true rfl, Nat.le_of_ble_eq_true rfl⟩) (ci := 8) (q := (RX8, TX8, 21)) rfl (q0 := (wX G ad S9).length) (wM_at rfl) dL_law_220 rfl hl.1 rfl (Nat.le_of_ble_eq_true rfl) ⟨by show cells + 0 + 0 ≤ 600000; omega, by show slots + 0 + 0 ≤ 7302250; omega⟩ (fun r8 M9 H8 locs8 hp8 hX8 => ?_)
  replace hX8 : HH G (fun q => s.heap.size ≤ q) s.heap (wX G ad S9 ++ wM G am M9) H8 locs8 := hX8
  obtain ⟨hr9, hI9⟩ := st_replace hI hd (xs (i + 1)) (ch16 (xs (i + 2))) (ch16_lt _) hp9 hp8
  refine W.widen (k := cells + 3) (n := slots + 91) (by omega) (by omega) ?_
  refine lv_icmp_eq (tgt := 716) hC.1 hC.2.1 dL_law_223 (by decide) (fun c9 => ?_) (fun c9 => ?_)
  · exact kk _ _ _ _ _ hI9 hX8 hl
  · exact absurd hr9 c9
theorem lawc_addPattern {p : Program} {l : Launch} {e : Env} {s : State} {m : MethodId} {args : Array Value} {below : List Frame} {meth : Method} {c : Code} {H : Heap} {locs : List Loc} {cells slots : Nat} {Q : State → Prop} {ls : Array Slot} {G : GX} {b L : Nat} {xs : Nat → Int32} {ad am : Nat → Nat} {S : XS} {M : MS} {i : Nat} (hC : CallFix p m c cL_law 8 s args wsL_law RL) (hK : KK G s) (hX0 : va_X b L xs s s.heap) (hbl : b < s.heap.size) (hL : L ≤ 2560) (hi : i + 5 ≤ L) (hX : HH G (fun q => s.heap.size ≤ q) s.heap (wX G ad S ++ wM G am M) H locs) (hI : INV S M) (hl : lv_has ls 8 [(0, .ref b), (1, .ref (ad 34)), (2, .ref (am 0)), (3, .int (nI i))]) (hcs : cells + 3 ≤ 600000) (hsl : slots + 91 ≤ 7302250)
    (kk : ∀ (S2 : XS) (M2 : MS) (H1 : Heap) (locs1 : List Loc) (ls1 : Array Slot), INV S2 M2 → HH G (fun q => s.heap.size ≤ q) s.heap (wX G ad S2 ++ wM G am M2) H1 locs1 → lv_has ls1 8 [(0, .ref b), (1, .ref (ad 34)), (2, .ref (am 0)), (3, .int (nI i))] → W p l e room_1 s m args below meth c H1 locs1 (cells + 3) (slots + 91) Q (F0 m 716 ls1 [])) : W p l e room_1 s m args below meth c H locs cells slots Q (F0 m 228 ls []) := by
  have hA : ∀ q : Nat, s.heap.size ≤ q → (fun q => s.heap.size ≤ q) q := fun _ h => h
  have hd := noDup_of_hh hX
  refine lv_aload_n hC.1 hC.2.1 dL_law_228 rfl (lv_at hl 1 rfl) ?_
  refine cv_I (w := fun S9 => wX G ad S9 ++ wM G am M) (S := S) (As := []) (rest := []) hC hK hA hX ((c_X7_addPattern l G ad S hI.1 ).frame (wM G am M)) (cwV 0 hC.2.2.2.2 gL_law_X7_addPattern rfl rfl rfl (by decide +kernel) ⟨Nat.le_of_ble_eq_true rfl, Nat.le_of_ble_eq_true rfl⟩) (ci := 7) (q := (RX7, TX7, 8)) rfl (q0 := 34) rfl dL_law_229 rfl hl.1 rfl (Nat.le_of_ble_eq_true rfl) ⟨by show cells + 3 ≤ 600000; omega, by show slots + 91 ≤ 7302250; omega⟩ (fun r9 S9 H9 locs9 hp9 hX9 => ?_)
  replace hX9 : HH G (fun q => s.heap.size ≤ q) s.heap (wX G ad S9 ++ wM G am M) H9 locs9 := hX9
  refine lv_aload_n hC.1 hC.2.1 dL_law_232 rfl (lv_at hl 2 rfl) ?_
  replace hX := hX9
  refine cv_I (w := fun M9 => wX G ad S9 ++ wM G am M9) (S := M) (As := []) (rest := [.int r9]) hC hK hA hX ((c_X8_addPattern l G am M hI.2.1 (rd0 (getRD S)) rfl rfl rfl ).frameL (wX G ad S9)) (cwV 0 hC.2.2.2.2 gL_law_X8_addPattern rfl rfl rfl (by decide +kernel) ⟨Nat.le_of_ble_eq_true rfl, Nat.le_of_ble_eq_true rfl⟩) (ci := 8) (q := (RX8, TX8, 21)) rfl (q0 := (wX G ad S9).length) (wM_at rfl) dL_law_233 rfl hl.1 rfl (Nat.le_of_ble_eq_true rfl) ⟨by show cells + 3 + 0 ≤ 600000; omega, by show slots + 91 + 0 ≤ 7302250; omega⟩ (fun r8 M9 H8 locs8 hp8 hX8 => ?_)
  replace hX8 : HH G (fun q => s.heap.size ≤ q) s.heap (wX G ad S9 ++ wM G am M9) H8 locs8 := hX8
  obtain ⟨hr9, hI9⟩ := st_addPattern hI   hp9 hp8
  refine W.widen (k := cells + 3) (n := slots + 91) (by omega) (by omega) ?_
  refine lv_icmp_eq (tgt := 716) hC.1 hC.2.1 dL_law_236 (by decide) (fun c9 => ?_) (fun c9 => ?_)
  · exact kk _ _ _ _ _ hI9 hX8 hl
  · exact absurd hr9 c9
theorem lawc_removePattern {p : Program} {l : Launch} {e : Env} {s : State} {m : MethodId} {args : Array Value} {below : List Frame} {meth : Method} {c : Code} {H : Heap} {locs : List Loc} {cells slots : Nat} {Q : State → Prop} {ls : Array Slot} {G : GX} {b L : Nat} {xs : Nat → Int32} {ad am : Nat → Nat} {S : XS} {M : MS} {i : Nat} (hC : CallFix p m c cL_law 8 s args wsL_law RL) (hK : KK G s) (hX0 : va_X b L xs s s.heap) (hbl : b < s.heap.size) (hL : L ≤ 2560) (hi : i + 5 ≤ L) (hX : HH G (fun q => s.heap.size ≤ q) s.heap (wX G ad S ++ wM G am M) H locs) (hI : INV S M) (hl : lv_has ls 8 [(0, .ref b), (1, .ref (ad 34)), (2, .ref (am 0)), (3, .int (nI i))]) (hcs : cells + 3 ≤ 600000) (hsl : slots + 91 ≤ 7302250)
    (kk : ∀ (S2 : XS) (M2 : MS) (H1 : Heap) (locs1 : List Loc) (ls1 : Array Slot), INV S2 M2 → HH G (fun q => s.heap.size ≤ q) s.heap (wX G ad S2 ++ wM G am M2) H1 locs1 → lv_has ls1 8 [(0, .ref b), (1, .ref (ad 34)), (2, .ref (am 0)), (3, .int (nI i))] → W p l e room_1 s m args below meth c H1 locs1 (cells + 3) (slots + 91) Q (F0 m 716 ls1 [])) : W p l e room_1 s m args below meth c H locs cells slots Q (F0 m 241 ls []) := by
  have hA : ∀ q : Nat, s.heap.size ≤ q → (fun q => s.heap.size ≤ q) q := fun _ h => h
  have hd := noDup_of_hh hX
  refine lv_aload_n hC.1 hC.2.1 dL_law_241 rfl (lv_at hl 1 rfl) ?_
  refine law_ld hC hX0 hbl hX hL 1 (by omega) (lv_at hl 0 rfl) (lv_at hl 3 rfl) dL_law_242 dL_law_243 dL_law_244 (by decide) dL_law_245 dL_law_246 ?_
  refine cv_I (w := fun S9 => wX G ad S9 ++ wM G am M) (S := S) (As := [.int (xs (i + 1))]) (rest := []) hC hK hA hX ((c_X7_removePattern l G ad S hI.1 (xs (i + 1))).frame (wM G am M)) (cwV 1 hC.2.2.2.2 gL_law_X7_removePattern rfl rfl rfl (by decide +kernel) ⟨Nat.le_of_ble_eq_true rfl, Nat.le_of_ble_eq_true rfl⟩) (ci := 7) (q := (RX7, TX7, 8)) rfl (q0 := 34) rfl dL_law_247 rfl hl.1 rfl (Nat.le_of_ble_eq_true rfl) ⟨by show cells + 0 ≤ 600000; omega, by show slots + 0 ≤ 7302250; omega⟩ (fun r9 S9 H9 locs9 hp9 hX9 => ?_)
  replace hX9 : HH G (fun q => s.heap.size ≤ q) s.heap (wX G ad S9 ++ wM G am M) H9 locs9 := hX9
  refine lv_aload_n hC.1 hC.2.1 dL_law_250 rfl (lv_at hl 2 rfl) ?_
  replace hX := hX9
  refine law_ld hC hX0 hbl hX hL 1 (by omega) (lv_at hl 0 rfl) (lv_at hl 3 rfl) dL_law_251 dL_law_252 dL_law_253 (by decide) dL_law_254 dL_law_255 ?_
  refine cv_I (w := fun M9 => wX G ad S9 ++ wM G am M9) (S := M) (As := [.int (xs (i + 1))]) (rest := [.int r9]) hC hK hA hX ((c_X8_removePattern l G am M hI.2.1 (xs (i + 1))).frameL (wX G ad S9)) (cwV 1 hC.2.2.2.2 gL_law_X8_removePattern rfl rfl rfl (by decide +kernel) ⟨Nat.le_of_ble_eq_true rfl, Nat.le_of_ble_eq_true rfl⟩) (ci := 8) (q := (RX8, TX8, 21)) rfl (q0 := (wX G ad S9).length) (wM_at rfl) dL_law_256 rfl hl.1 rfl (Nat.le_of_ble_eq_true rfl) ⟨by show cells + 0 + 0 ≤ 600000; omega, by show slots + 0 + 0 ≤ 7302250; omega⟩ (fun r8 M9 H8 locs8 hp8 hX8 => ?_)
  replace hX8 : HH G (fun q => s.heap.size ≤ q) s.heap (wX G ad S9 ++ wM G am M9) H8 locs8 := hX8
  obtain ⟨hr9, hI9⟩ := st_removePattern hI  (xs (i + 1)) hp9 hp8
  refine W.widen (k := cells + 3) (n := slots + 91) (by omega) (by omega) ?_
  refine lv_icmp_eq (tgt := 716) hC.1 hC.2.1 dL_law_259 (by decide) (fun c9 => ?_) (fun c9 => ?_)
  · exact kk _ _ _ _ _ hI9 hX8 hl
  · exact absurd hr9 c9
theorem lawc_setSlips {p : Program} {l : Launch} {e : Env} {s : State} {m : MethodId} {args : Array Value} {below : List Frame} {meth : Method} {c : Code} {H : Heap} {locs : List Loc} {cells slots : Nat} {Q : State → Prop} {ls : Array Slot} {G : GX} {b L : Nat} {xs : Nat → Int32} {ad am : Nat → Nat} {S : XS} {M : MS} {i : Nat} (hC : CallFix p m c cL_law 8 s args wsL_law RL) (hK : KK G s) (hX0 : va_X b L xs s s.heap) (hbl : b < s.heap.size) (hL : L ≤ 2560) (hi : i + 5 ≤ L) (hX : HH G (fun q => s.heap.size ≤ q) s.heap (wX G ad S ++ wM G am M) H locs) (hI : INV S M) (hl : lv_has ls 8 [(0, .ref b), (1, .ref (ad 34)), (2, .ref (am 0)), (3, .int (nI i))]) (hcs : cells + 3 ≤ 600000) (hsl : slots + 91 ≤ 7302250)
    (kk : ∀ (S2 : XS) (M2 : MS) (H1 : Heap) (locs1 : List Loc) (ls1 : Array Slot), INV S2 M2 → HH G (fun q => s.heap.size ≤ q) s.heap (wX G ad S2 ++ wM G am M2) H1 locs1 → lv_has ls1 8 [(0, .ref b), (1, .ref (ad 34)), (2, .ref (am 0)), (3, .int (nI i))] → W p l e room_1 s m args below meth c H1 locs1 (cells + 3) (slots + 91) Q (F0 m 716 ls1 [])) : W p l e room_1 s m args below meth c H locs cells slots Q (F0 m 264 ls []) := by
  have hA : ∀ q : Nat, s.heap.size ≤ q → (fun q => s.heap.size ≤ q) q := fun _ h => h
  have hd := noDup_of_hh hX
  refine lv_aload_n hC.1 hC.2.1 dL_law_264 rfl (lv_at hl 1 rfl) ?_
  refine law_ld hC hX0 hbl hX hL 1 (by omega) (lv_at hl 0 rfl) (lv_at hl 3 rfl) dL_law_265 dL_law_266 dL_law_267 (by decide) dL_law_268 dL_law_269 ?_
  refine cv_I (w := fun S9 => wX G ad S9 ++ wM G am M) (S := S) (As := [.int (xs (i + 1))]) (rest := []) hC hK hA hX ((c_X7_setSlips l G ad S hI.1 (xs (i + 1))).frame (wM G am M)) (cwV 1 hC.2.2.2.2 gL_law_X7_setSlips rfl rfl rfl (by decide +kernel) ⟨Nat.le_of_ble_eq_true rfl, Nat.le_of_ble_eq_true rfl⟩) (ci := 7) (q := (RX7, TX7, 8)) rfl (q0 := 34) rfl dL_law_270 rfl hl.1 rfl (Nat.le_of_ble_eq_true rfl) ⟨by show cells + 0 ≤ 600000; omega, by show slots + 0 ≤ 7302250; omega⟩ (fun r9 S9 H9 locs9 hp9 hX9 => ?_)
  replace hX9 : HH G (fun q => s.heap.size ≤ q) s.heap (wX G ad S9 ++ wM G am M) H9 locs9 := hX9
  refine lv_aload_n hC.1 hC.2.1 dL_law_273 rfl (lv_at hl 2 rfl) ?_
  replace hX := hX9
  refine law_ld hC hX0 hbl hX hL 1 (by omega) (lv_at hl 0 rfl) (lv_at hl 3 rfl) dL_law_274 dL_law_275 dL_law_276 (by decide) dL_law_277 dL_law_278 ?_
  refine cv_I (w := fun M9 => wX G ad S9 ++ wM G am M9) (S := M) (As := [.int (xs (i + 1))]) (rest := [.int r9]) hC hK hA hX ((c_X8_setSlips l G am M hI.2.1 (xs (i + 1))).frameL (wX G ad S9)) (cwV 1 hC.2.2.2.2 gL_law_X8_setSlips rfl rfl rfl (by decide +kernel) ⟨Nat.le_of_ble_eq_true rfl, Nat.le_of_ble_eq_true rfl⟩) (ci := 8) (q := (RX8, TX8, 21)) rfl (q0 := (wX G ad S9).length) (wM_at rfl) dL_law_279 rfl hl.1 rfl (Nat.le_of_ble_eq_true rfl) ⟨by show cells + 0 + 0 ≤ 600000; omega, by show slots + 0 + 0 ≤ 7302250; omega⟩ (fun r8 M9 H8 locs8 hp8 hX8 => ?_)
  replace hX8 : HH G (fun q => s.heap.size ≤ q) s.heap (wX G ad S9 ++ wM G am M9) H8 locs8 := hX8
  obtain ⟨hr9, hI9⟩ := st_setSlips hI  (xs (i + 1)) hp9 hp8
  refine W.widen (k := cells + 3) (n := slots + 91) (by omega) (by omega) ?_
  refine lv_icmp_eq (tgt := 716) hC.1 hC.2.1 dL_law_282 (by decide) (fun c9 => ?_) (fun c9 => ?_)
  · exact kk _ _ _ _ _ hI9 hX8 hl
  · exact absurd hr9 c9
theorem lawc_type {p : Program} {l : Launch} {e : Env} {s : State} {m : MethodId} {args : Array Value} {below : List Frame} {meth : Method} {c : Code} {H : Heap} {locs : List Loc} {cells slots : Nat} {Q : State → Prop} {ls : Array Slot} {G : GX} {b L : Nat} {xs : Nat → Int32} {ad am : Nat → Nat} {S : XS} {M : MS} {i : Nat} (hC : CallFix p m c cL_law 8 s args wsL_law RL) (hK : KK G s) (hX0 : va_X b L xs s s.heap) (hbl : b < s.heap.size) (hL : L ≤ 2560) (hi : i + 5 ≤ L) (hX : HH G (fun q => s.heap.size ≤ q) s.heap (wX G ad S ++ wM G am M) H locs) (hI : INV S M) (hl : lv_has ls 8 [(0, .ref b), (1, .ref (ad 34)), (2, .ref (am 0)), (3, .int (nI i))]) (hcs : cells + 3 ≤ 600000) (hsl : slots + 91 ≤ 7302250)
    (kk : ∀ (S2 : XS) (M2 : MS) (H1 : Heap) (locs1 : List Loc) (ls1 : Array Slot), INV S2 M2 → HH G (fun q => s.heap.size ≤ q) s.heap (wX G ad S2 ++ wM G am M2) H1 locs1 → lv_has ls1 8 [(0, .ref b), (1, .ref (ad 34)), (2, .ref (am 0)), (3, .int (nI i))] → W p l e room_1 s m args below meth c H1 locs1 (cells + 3) (slots + 91) Q (F0 m 716 ls1 [])) : W p l e room_1 s m args below meth c H locs cells slots Q (F0 m 287 ls []) := by
  have hA : ∀ q : Nat, s.heap.size ≤ q → (fun q => s.heap.size ≤ q) q := fun _ h => h
  have hd := noDup_of_hh hX
  refine lv_aload_n hC.1 hC.2.1 dL_law_287 rfl (lv_at hl 1 rfl) ?_
  refine law_ld hC hX0 hbl hX hL 1 (by omega) (lv_at hl 0 rfl) (lv_at hl 3 rfl) dL_law_288 dL_law_289 dL_law_290 (by decide) dL_law_291 dL_law_292 ?_
  refine lv_i2c (v := nI (ch16 (xs (i + 1)))) hC.1 hC.2.1 dL_law_293 (ch16_i _) ?_
  refine cv_I (w := fun S9 => wX G ad S9 ++ wM G am M) (S := S) (As := [.int (nI (ch16 (xs (i + 1))))]) (rest := []) hC hK hA hX ((c_X7_type l G ad S hI.1 (ch16 (xs (i + 1))) (ch16_lt _)).frame (wM G am M)) (cwV 1 hC.2.2.2.2 gL_law_X7_type rfl rfl rfl (by decide +kernel) ⟨Nat.le_of_ble_eq_true rfl, Nat.le_of_ble_eq_true rfl⟩) (ci := 7) (q := (RX7, TX7, 8)) rfl (q0 := 34) rfl dL_law_294 rfl hl.1 rfl (Nat.le_of_ble_eq_true rfl) ⟨by show cells + 0 ≤ 600000; omega, by show slots + 0 ≤ 7302250; omega⟩ (fun r9 S9 H9 locs9 hp9 hX9 => ?_)
  replace hX9 : HH G (fun q => s.heap.size ≤ q) s.heap (wX G ad S9 ++ wM G am M) H9 locs9 := hX9
  refine lv_aload_n hC.1 hC.2.1 dL_law_297 rfl (lv_at hl 2 rfl) ?_
  replace hX := hX9
  refine law_ld hC hX0 hbl hX hL 1 (by omega) (lv_at hl 0 rfl) (lv_at hl 3 rfl) dL_law_298 dL_law_299 dL_law_300 (by decide) dL_law_301 dL_law_302 ?_
  refine lv_i2c (v := nI (ch16 (xs (i + 1)))) hC.1 hC.2.1 dL_law_303 (ch16_i _) ?_
  refine cv_I (w := fun M9 => wX G ad S9 ++ wM G am M9) (S := M) (As := [.int (nI (ch16 (xs (i + 1))))]) (rest := [.int r9]) hC hK hA hX ((c_X8_type l G am M hI.2.1 (ch16 (xs (i + 1))) (ch16_lt _)).frameL (wX G ad S9)) (cwV 1 hC.2.2.2.2 gL_law_X8_type rfl rfl rfl (by decide +kernel) ⟨Nat.le_of_ble_eq_true rfl, Nat.le_of_ble_eq_true rfl⟩) (ci := 8) (q := (RX8, TX8, 21)) rfl (q0 := (wX G ad S9).length) (wM_at rfl) dL_law_304 rfl hl.1 rfl (Nat.le_of_ble_eq_true rfl) ⟨by show cells + 0 + 0 ≤ 600000; omega, by show slots + 0 + 0 ≤ 7302250; omega⟩ (fun r8 M9 H8 locs8 hp8 hX8 => ?_)
  replace hX8 : HH G (fun q => s.heap.size ≤ q) s.heap (wX G ad S9 ++ wM G am M9) H8 locs8 := hX8
  obtain ⟨hr9, hI9⟩ := st_type hI  (ch16 (xs (i + 1))) (ch16_lt _) hp9 hp8
  refine W.widen (k := cells + 3) (n := slots + 91) (by omega) (by omega) ?_
  refine lv_icmp_eq (tgt := 716) hC.1 hC.2.1 dL_law_307 (by decide) (fun c9 => ?_) (fun c9 => ?_)
  · exact kk _ _ _ _ _ hI9 hX8 hl
  · exact absurd hr9 c9
theorem lawc_clearPad {p : Program} {l : Launch} {e : Env} {s : State} {m : MethodId} {args : Array Value} {below : List Frame} {meth : Method} {c : Code} {H : Heap} {locs : List Loc} {cells slots : Nat} {Q : State → Prop} {ls : Array Slot} {G : GX} {b L : Nat} {xs : Nat → Int32} {ad am : Nat → Nat} {S : XS} {M : MS} {i : Nat} (hC : CallFix p m c cL_law 8 s args wsL_law RL) (hK : KK G s) (hX0 : va_X b L xs s s.heap) (hbl : b < s.heap.size) (hL : L ≤ 2560) (hi : i + 5 ≤ L) (hX : HH G (fun q => s.heap.size ≤ q) s.heap (wX G ad S ++ wM G am M) H locs) (hI : INV S M) (hl : lv_has ls 8 [(0, .ref b), (1, .ref (ad 34)), (2, .ref (am 0)), (3, .int (nI i))]) (hcs : cells + 3 ≤ 600000) (hsl : slots + 91 ≤ 7302250)
    (kk : ∀ (S2 : XS) (M2 : MS) (H1 : Heap) (locs1 : List Loc) (ls1 : Array Slot), INV S2 M2 → HH G (fun q => s.heap.size ≤ q) s.heap (wX G ad S2 ++ wM G am M2) H1 locs1 → lv_has ls1 8 [(0, .ref b), (1, .ref (ad 34)), (2, .ref (am 0)), (3, .int (nI i))] → W p l e room_1 s m args below meth c H1 locs1 (cells + 3) (slots + 91) Q (F0 m 716 ls1 [])) : W p l e room_1 s m args below meth c H locs cells slots Q (F0 m 312 ls []) := by
  have hA : ∀ q : Nat, s.heap.size ≤ q → (fun q => s.heap.size ≤ q) q := fun _ h => h
  have hd := noDup_of_hh hX
  refine lv_aload_n hC.1 hC.2.1 dL_law_312 rfl (lv_at hl 1 rfl) ?_
  refine cv_I (w := fun S9 => wX G ad S9 ++ wM G am M) (S := S) (As := []) (rest := []) hC hK hA hX ((c_X7_clearPad l G ad S  ).frame (wM G am M)) (cwV 0 hC.2.2.2.2 gL_law_X7_clearPad rfl rfl rfl (by decide +kernel) ⟨Nat.le_of_ble_eq_true rfl, Nat.le_of_ble_eq_true rfl⟩) (ci := 7) (q := (RX7, TX7, 8)) rfl (q0 := 34) rfl dL_law_313 rfl hl.1 rfl (Nat.le_of_ble_eq_true rfl) ⟨by show cells + 0 ≤ 600000; omega, by show slots + 0 ≤ 7302250; omega⟩ (fun r9 S9 H9 locs9 hp9 hX9 => ?_)
  replace hX9 : HH G (fun q => s.heap.size ≤ q) s.heap (wX G ad S9 ++ wM G am M) H9 locs9 := hX9
  refine lv_aload_n hC.1 hC.2.1 dL_law_316 rfl (lv_at hl 2 rfl) ?_
  replace hX := hX9
  refine cv_I (w := fun M9 => wX G ad S9 ++ wM G am M9) (S := M) (As := []) (rest := [.int r9]) hC hK hA hX ((c_X8_clearPad l G am M  ).frameL (wX G ad S9)) (cwV 0 hC.2.2.2.2 gL_law_X8_clearPad rfl rfl rfl (by decide +kernel) ⟨Nat.le_of_ble_eq_true rfl, Nat.le_of_ble_eq_true rfl⟩) (ci := 8) (q := (RX8, TX8, 21)) rfl (q0 := (wX G ad S9).length) (wM_at rfl) dL_law_317 rfl hl.1 rfl (Nat.le_of_ble_eq_true rfl) ⟨by show cells + 0 + 0 ≤ 600000; omega, by show slots + 0 + 0 ≤ 7302250; omega⟩ (fun r8 M9 H8 locs8 hp8 hX8 => ?_)
  replace hX8 : HH G (fun q => s.heap.size ≤ q) s.heap (wX G ad S9 ++ wM G am M9) H8 locs8 := hX8
  obtain ⟨hr9, hI9⟩ := st_clearPad hI   hp9 hp8
  refine W.widen (k := cells + 3) (n := slots + 91) (by omega) (by omega) ?_
  refine lv_icmp_eq (tgt := 716) hC.1 hC.2.1 dL_law_320 (by decide) (fun c9 => ?_) (fun c9 => ?_)
  · exact kk _ _ _ _ _ hI9 hX8 hl
  · exact absurd hr9 c9
theorem lawc_undo {p : Program} {l : Launch} {e : Env} {s : State} {m : MethodId} {args : Array Value} {below : List Frame} {meth : Method} {c : Code} {H : Heap} {locs : List Loc} {cells slots : Nat} {Q : State → Prop} {ls : Array Slot} {G : GX} {b L : Nat} {xs : Nat → Int32} {ad am : Nat → Nat} {S : XS} {M : MS} {i : Nat} (hC : CallFix p m c cL_law 8 s args wsL_law RL) (hK : KK G s) (hX0 : va_X b L xs s s.heap) (hbl : b < s.heap.size) (hL : L ≤ 2560) (hi : i + 5 ≤ L) (hX : HH G (fun q => s.heap.size ≤ q) s.heap (wX G ad S ++ wM G am M) H locs) (hI : INV S M) (hl : lv_has ls 8 [(0, .ref b), (1, .ref (ad 34)), (2, .ref (am 0)), (3, .int (nI i))]) (hcs : cells + 3 ≤ 600000) (hsl : slots + 91 ≤ 7302250)
    (kk : ∀ (S2 : XS) (M2 : MS) (H1 : Heap) (locs1 : List Loc) (ls1 : Array Slot), INV S2 M2 → HH G (fun q => s.heap.size ≤ q) s.heap (wX G ad S2 ++ wM G am M2) H1 locs1 → lv_has ls1 8 [(0, .ref b), (1, .ref (ad 34)), (2, .ref (am 0)), (3, .int (nI i))] → W p l e room_1 s m args below meth c H1 locs1 (cells + 3) (slots + 91) Q (F0 m 716 ls1 [])) : W p l e room_1 s m args below meth c H locs cells slots Q (F0 m 325 ls []) := by
  have hA : ∀ q : Nat, s.heap.size ≤ q → (fun q => s.heap.size ≤ q) q := fun _ h => h
  have hd := noDup_of_hh hX
  refine lv_aload_n hC.1 hC.2.1 dL_law_325 rfl (lv_at hl 1 rfl) ?_
  refine cv_I (w := fun S9 => wX G ad S9 ++ wM G am M) (S := S) (As := []) (rest := []) hC hK hA hX ((c_X7_undo l G ad S hI.1 ).frame (wM G am M)) (cwV 0 hC.2.2.2.2 gL_law_X7_undo rfl rfl rfl (by decide +kernel) ⟨Nat.le_of_ble_eq_true rfl, Nat.le_of_ble_eq_true rfl⟩) (ci := 7) (q := (RX7, TX7, 8)) rfl (q0 := 34) rfl dL_law_326 rfl hl.1 rfl (Nat.le_of_ble_eq_true rfl) ⟨by show cells + 0 ≤ 600000; omega, by show slots + 0 ≤ 7302250; omega⟩ (fun r9 S9 H9 locs9 hp9 hX9 => ?_)
  replace hX9 : HH G (fun q => s.heap.size ≤ q) s.heap (wX G ad S9 ++ wM G am M) H9 locs9 := hX9
  refine lv_aload_n hC.1 hC.2.1 dL_law_329 rfl (lv_at hl 2 rfl) ?_
  replace hX := hX9
  refine cv_I (w := fun M9 => wX G ad S9 ++ wM G am M9) (S := M) (As := []) (rest := [.int r9]) hC hK hA hX ((c_X8_undo l G am M hI.2.1 ).frameL (wX G ad S9)) (cwV 0 hC.2.2.2.2 gL_law_X8_undo rfl rfl rfl (by decide +kernel) ⟨Nat.le_of_ble_eq_true rfl, Nat.le_of_ble_eq_true rfl⟩) (ci := 8) (q := (RX8, TX8, 21)) rfl (q0 := (wX G ad S9).length) (wM_at rfl) dL_law_330 rfl hl.1 rfl (Nat.le_of_ble_eq_true rfl) ⟨by show cells + 0 + 0 ≤ 600000; omega, by show slots + 0 + 0 ≤ 7302250; omega⟩ (fun r8 M9 H8 locs8 hp8 hX8 => ?_)
  replace hX8 : HH G (fun q => s.heap.size ≤ q) s.heap (wX G ad S9 ++ wM G am M9) H8 locs8 := hX8
  obtain ⟨hr9, hI9⟩ := st_undo hI   hp9 hp8
  refine W.widen (k := cells + 3) (n := slots + 91) (by omega) (by omega) ?_
  refine lv_icmp_eq (tgt := 716) hC.1 hC.2.1 dL_law_333 (by decide) (fun c9 => ?_) (fun c9 => ?_)
  · exact kk _ _ _ _ _ hI9 hX8 hl
  · exact absurd hr9 c9
theorem lawc_keep {p : Program} {l : Launch} {e : Env} {s : State} {m : MethodId} {args : Array Value} {below : List Frame} {meth : Method} {c : Code} {H : Heap} {locs : List Loc} {cells slots : Nat} {Q : State → Prop} {ls : Array Slot} {G : GX} {b L : Nat} {xs : Nat → Int32} {ad am : Nat → Nat} {S : XS} {M : MS} {i : Nat} (hC : CallFix p m c cL_law 8 s args wsL_law RL) (hK : KK G s) (hX0 : va_X b L xs s s.heap) (hbl : b < s.heap.size) (hL : L ≤ 2560) (hi : i + 5 ≤ L) (hX : HH G (fun q => s.heap.size ≤ q) s.heap (wX G ad S ++ wM G am M) H locs) (hI : INV S M) (hl : lv_has ls 8 [(0, .ref b), (1, .ref (ad 34)), (2, .ref (am 0)), (3, .int (nI i))]) (hcs : cells + 3 ≤ 600000) (hsl : slots + 91 ≤ 7302250)
    (kk : ∀ (S2 : XS) (M2 : MS) (H1 : Heap) (locs1 : List Loc) (ls1 : Array Slot), INV S2 M2 → HH G (fun q => s.heap.size ≤ q) s.heap (wX G ad S2 ++ wM G am M2) H1 locs1 → lv_has ls1 8 [(0, .ref b), (1, .ref (ad 34)), (2, .ref (am 0)), (3, .int (nI i))] → W p l e room_1 s m args below meth c H1 locs1 (cells + 3) (slots + 91) Q (F0 m 716 ls1 [])) : W p l e room_1 s m args below meth c H locs cells slots Q (F0 m 338 ls []) := by
  have hA : ∀ q : Nat, s.heap.size ≤ q → (fun q => s.heap.size ≤ q) q := fun _ h => h
  have hd := noDup_of_hh hX
  refine lv_aload_n hC.1 hC.2.1 dL_law_338 rfl (lv_at hl 1 rfl) ?_
  refine cv_I (w := fun S9 => wX G ad S9 ++ wM G am M) (S := S) (As := []) (rest := []) hC hK hA hX ((c_X7_keep l G ad S hI.1 ).frame (wM G am M)) (cwV 0 hC.2.2.2.2 gL_law_X7_keep rfl rfl rfl (by decide +kernel) ⟨Nat.le_of_ble_eq_true rfl, Nat.le_of_ble_eq_true rfl⟩) (ci := 7) (q := (RX7, TX7, 8)) rfl (q0 := 34) rfl dL_law_339 rfl hl.1 rfl (Nat.le_of_ble_eq_true rfl) ⟨by show cells + 0 ≤ 600000; omega, by show slots + 0 ≤ 7302250; omega⟩ (fun r9 S9 H9 locs9 hp9 hX9 => ?_)
  replace hX9 : HH G (fun q => s.heap.size ≤ q) s.heap (wX G ad S9 ++ wM G am M) H9 locs9 := hX9
  refine lv_aload_n hC.1 hC.2.1 dL_law_342 rfl (lv_at hl 2 rfl) ?_
  replace hX := hX9
  refine cv_I (w := fun M9 => wX G ad S9 ++ wM G am M9) (S := M) (As := []) (rest := [.int r9]) hC hK hA hX ((c_X8_keep l G am M hI.2.1 ).frameL (wX G ad S9)) (cwV 0 hC.2.2.2.2 gL_law_X8_keep rfl rfl rfl (by decide +kernel) ⟨Nat.le_of_ble_eq_true rfl, Nat.le_of_ble_eq_true rfl⟩) (ci := 8) (q := (RX8, TX8, 21)) rfl (q0 := (wX G ad S9).length) (wM_at rfl) dL_law_343 rfl hl.1 rfl (Nat.le_of_ble_eq_true rfl) ⟨by show cells + 0 + 0 ≤ 600000; omega, by show slots + 0 + 0 ≤ 7302250; omega⟩ (fun r8 M9 H8 locs8 hp8 hX8 => ?_)
  replace hX8 : HH G (fun q => s.heap.size ≤ q) s.heap (wX G ad S9 ++ wM G am M9) H8 locs8 := hX8
  obtain ⟨hr9, hI9⟩ := st_keep hI   hp9 hp8
  refine W.widen (k := cells + 3) (n := slots + 91) (by omega) (by omega) ?_
  refine lv_icmp_eq (tgt := 716) hC.1 hC.2.1 dL_law_346 (by decide) (fun c9 => ?_) (fun c9 => ?_)
  · exact kk _ _ _ _ _ hI9 hX8 hl
  · exact absurd hr9 c9
theorem lawc_restore {p : Program} {l : Launch} {e : Env} {s : State} {m : MethodId} {args : Array Value} {below : List Frame} {meth : Method} {c : Code} {H : Heap} {locs : List Loc} {cells slots : Nat} {Q : State → Prop} {ls : Array Slot} {G : GX} {b L : Nat} {xs : Nat → Int32} {ad am : Nat → Nat} {S : XS} {M : MS} {i : Nat} (hC : CallFix p m c cL_law 8 s args wsL_law RL) (hK : KK G s) (hX0 : va_X b L xs s s.heap) (hbl : b < s.heap.size) (hL : L ≤ 2560) (hi : i + 5 ≤ L) (hX : HH G (fun q => s.heap.size ≤ q) s.heap (wX G ad S ++ wM G am M) H locs) (hI : INV S M) (hl : lv_has ls 8 [(0, .ref b), (1, .ref (ad 34)), (2, .ref (am 0)), (3, .int (nI i))]) (hcs : cells + 3 ≤ 600000) (hsl : slots + 91 ≤ 7302250)
    (kk : ∀ (S2 : XS) (M2 : MS) (H1 : Heap) (locs1 : List Loc) (ls1 : Array Slot), INV S2 M2 → HH G (fun q => s.heap.size ≤ q) s.heap (wX G ad S2 ++ wM G am M2) H1 locs1 → lv_has ls1 8 [(0, .ref b), (1, .ref (ad 34)), (2, .ref (am 0)), (3, .int (nI i))] → W p l e room_1 s m args below meth c H1 locs1 (cells + 3) (slots + 91) Q (F0 m 716 ls1 [])) : W p l e room_1 s m args below meth c H locs cells slots Q (F0 m 351 ls []) := by
  have hA : ∀ q : Nat, s.heap.size ≤ q → (fun q => s.heap.size ≤ q) q := fun _ h => h
  have hd := noDup_of_hh hX
  refine lv_aload_n hC.1 hC.2.1 dL_law_351 rfl (lv_at hl 1 rfl) ?_
  refine cv_I (w := fun S9 => wX G ad S9 ++ wM G am M) (S := S) (As := []) (rest := []) hC hK hA hX ((c_X7_restore l G ad S hI.1 ).frame (wM G am M)) (cwV 0 hC.2.2.2.2 gL_law_X7_restore rfl rfl rfl (by decide +kernel) ⟨Nat.le_of_ble_eq_true rfl, Nat.le_of_ble_eq_true rfl⟩) (ci := 7) (q := (RX7, TX7, 8)) rfl (q0 := 34) rfl dL_law_352 rfl hl.1 rfl (Nat.le_of_ble_eq_true rfl) ⟨by show cells + 0 ≤ 600000; omega, by show slots + 0 ≤ 7302250; omega⟩ (fun r9 S9 H9 locs9 hp9 hX9 => ?_)
  replace hX9 : HH G (fun q => s.heap.size ≤ q) s.heap (wX G ad S9 ++ wM G am M) H9 locs9 := hX9
  refine lv_aload_n hC.1 hC.2.1 dL_law_355 rfl (lv_at hl 2 rfl) ?_
  replace hX := hX9
  refine cv_I (w := fun M9 => wX G ad S9 ++ wM G am M9) (S := M) (As := []) (rest := [.int r9]) hC hK hA hX ((c_X8_restore l G am M hI.2.1 ).frameL (wX G ad S9)) (cwV 0 hC.2.2.2.2 gL_law_X8_restore rfl rfl rfl (by decide +kernel) ⟨Nat.le_of_ble_eq_true rfl, Nat.le_of_ble_eq_true rfl⟩) (ci := 8) (q := (RX8, TX8, 21)) rfl (q0 := (wX G ad S9).length) (wM_at rfl) dL_law_356 rfl hl.1 rfl (Nat.le_of_ble_eq_true rfl) ⟨by show cells + 0 + 0 ≤ 600000; omega, by show slots + 0 + 0 ≤ 7302250; omega⟩ (fun r8 M9 H8 locs8 hp8 hX8 => ?_)
  replace hX8 : HH G (fun q => s.heap.size ≤ q) s.heap (wX G ad S9 ++ wM G am M9) H8 locs8 := hX8
  obtain ⟨hr9, hI9⟩ := st_restore hI   hp9 hp8
  refine W.widen (k := cells + 3) (n := slots + 91) (by omega) (by omega) ?_
  refine lv_icmp_eq (tgt := 716) hC.1 hC.2.1 dL_law_359 (by decide) (fun c9 => ?_) (fun c9 => ?_)
  · exact kk _ _ _ _ _ hI9 hX8 hl
  · exact absurd hr9 c9
theorem lawc_at {p : Program} {l : Launch} {e : Env} {s : State} {m : MethodId} {args : Array Value} {below : List Frame} {meth : Method} {c : Code} {H : Heap} {locs : List Loc} {cells slots : Nat} {Q : State → Prop} {ls : Array Slot} {G : GX} {b L : Nat} {xs : Nat → Int32} {ad am : Nat → Nat} {S : XS} {M : MS} {i : Nat} (hC : CallFix p m c cL_law 8 s args wsL_law RL) (hK : KK G s) (hX0 : va_X b L xs s s.heap) (hbl : b < s.heap.size) (hL : L ≤ 2560) (hi : i + 5 ≤ L) (hX : HH G (fun q => s.heap.size ≤ q) s.heap (wX G ad S ++ wM G am M) H locs) (hI : INV S M) (hl : lv_has ls 8 [(0, .ref b), (1, .ref (ad 34)), (2, .ref (am 0)), (3, .int (nI i))]) (hcs : cells + 3 ≤ 600000) (hsl : slots + 91 ≤ 7302250)
    (kk : ∀ (S2 : XS) (M2 : MS) (H1 : Heap) (locs1 : List Loc) (ls1 : Array Slot), INV S2 M2 → HH G (fun q => s.heap.size ≤ q) s.heap (wX G ad S2 ++ wM G am M2) H1 locs1 → lv_has ls1 8 [(0, .ref b), (1, .ref (ad 34)), (2, .ref (am 0)), (3, .int (nI i))] → W p l e room_1 s m args below meth c H1 locs1 (cells + 3) (slots + 91) Q (F0 m 716 ls1 [])) : W p l e room_1 s m args below meth c H locs cells slots Q (F0 m 364 ls []) := by
  have hA : ∀ q : Nat, s.heap.size ≤ q → (fun q => s.heap.size ≤ q) q := fun _ h => h
  have hd := noDup_of_hh hX
  refine lv_aload_n hC.1 hC.2.1 dL_law_364 rfl (lv_at hl 1 rfl) ?_
  refine law_ld hC hX0 hbl hX hL 1 (by omega) (lv_at hl 0 rfl) (lv_at hl 3 rfl) dL_law_365 dL_law_366 dL_law_367 (by decide) dL_law_368 dL_law_369 ?_
  refine cv_I (w := fun S9 => wX G ad S9 ++ wM G am M) (S := S) (As := [.int (xs (i + 1))]) (rest := []) hC hK hA hX ((c_X7_at l G ad S hI.1 (xs (i + 1))).frame (wM G am M)) (cwV 1 hC.2.2.2.2 gL_law_X7_at rfl rfl rfl (by decide +kernel) ⟨Nat.le_of_ble_eq_true rfl, Nat.le_of_ble_eq_true rfl⟩) (ci := 7) (q := (RX7, TX7, 8)) rfl (q0 := 34) rfl dL_law_370 rfl hl.1 rfl (Nat.le_of_ble_eq_true rfl) ⟨by show cells + 0 ≤ 600000; omega, by show slots + 0 ≤ 7302250; omega⟩ (fun r9 S9 H9 locs9 hp9 hX9 => ?_)
  replace hX9 : HH G (fun q => s.heap.size ≤ q) s.heap (wX G ad S9 ++ wM G am M) H9 locs9 := hX9
  refine lv_aload_n hC.1 hC.2.1 dL_law_373 rfl (lv_at hl 2 rfl) ?_
  replace hX := hX9
  refine law_ld hC hX0 hbl hX hL 1 (by omega) (lv_at hl 0 rfl) (lv_at hl 3 rfl) dL_law_374 dL_law_375 dL_law_376 (by decide) dL_law_377 dL_law_378 ?_
  refine cv_I (w := fun M9 => wX G ad S9 ++ wM G am M9) (S := M) (As := [.int (xs (i + 1))]) (rest := [.int r9]) hC hK hA hX ((c_X8_at l G am M hI.2.1 (xs (i + 1))).frameL (wX G ad S9)) (cwV 1 hC.2.2.2.2 gL_law_X8_at rfl rfl rfl (by decide +kernel) ⟨Nat.le_of_ble_eq_true rfl, Nat.le_of_ble_eq_true rfl⟩) (ci := 8) (q := (RX8, TX8, 21)) rfl (q0 := (wX G ad S9).length) (wM_at rfl) dL_law_379 rfl hl.1 rfl (Nat.le_of_ble_eq_true rfl) ⟨by show cells + 0 + 0 ≤ 600000; omega, by show slots + 0 + 0 ≤ 7302250; omega⟩ (fun r8 M9 H8 locs8 hp8 hX8 => ?_)
  replace hX8 : HH G (fun q => s.heap.size ≤ q) s.heap (wX G ad S9 ++ wM G am M9) H8 locs8 := hX8
  obtain ⟨hr9, hI9⟩ := st_at hI  (xs (i + 1)) hp9 hp8
  refine W.widen (k := cells + 3) (n := slots + 91) (by omega) (by omega) ?_
  refine lv_icmp_eq (tgt := 716) hC.1 hC.2.1 dL_law_382 (by decide) (fun c9 => ?_) (fun c9 => ?_)
  · exact kk _ _ _ _ _ hI9 hX8 hl
  · exact absurd hr9 c9
theorem lawc_pattern {p : Program} {l : Launch} {e : Env} {s : State} {m : MethodId} {args : Array Value} {below : List Frame} {meth : Method} {c : Code} {H : Heap} {locs : List Loc} {cells slots : Nat} {Q : State → Prop} {ls : Array Slot} {G : GX} {b L : Nat} {xs : Nat → Int32} {ad am : Nat → Nat} {S : XS} {M : MS} {i : Nat} (hC : CallFix p m c cL_law 8 s args wsL_law RL) (hK : KK G s) (hX0 : va_X b L xs s s.heap) (hbl : b < s.heap.size) (hL : L ≤ 2560) (hi : i + 5 ≤ L) (hX : HH G (fun q => s.heap.size ≤ q) s.heap (wX G ad S ++ wM G am M) H locs) (hI : INV S M) (hl : lv_has ls 8 [(0, .ref b), (1, .ref (ad 34)), (2, .ref (am 0)), (3, .int (nI i))]) (hcs : cells + 3 ≤ 600000) (hsl : slots + 91 ≤ 7302250)
    (kk : ∀ (S2 : XS) (M2 : MS) (H1 : Heap) (locs1 : List Loc) (ls1 : Array Slot), INV S2 M2 → HH G (fun q => s.heap.size ≤ q) s.heap (wX G ad S2 ++ wM G am M2) H1 locs1 → lv_has ls1 8 [(0, .ref b), (1, .ref (ad 34)), (2, .ref (am 0)), (3, .int (nI i))] → W p l e room_1 s m args below meth c H1 locs1 (cells + 3) (slots + 91) Q (F0 m 716 ls1 [])) : W p l e room_1 s m args below meth c H locs cells slots Q (F0 m 387 ls []) := by
  have hA : ∀ q : Nat, s.heap.size ≤ q → (fun q => s.heap.size ≤ q) q := fun _ h => h
  have hd := noDup_of_hh hX
  refine lv_aload_n hC.1 hC.2.1 dL_law_387 rfl (lv_at hl 1 rfl) ?_
  refine law_ld hC hX0 hbl hX hL 1 (by omega) (lv_at hl 0 rfl) (lv_at hl 3 rfl) dL_law_388 dL_law_389 dL_law_390 (by decide) dL_law_391 dL_law_392 ?_
  refine law_ld hC hX0 hbl hX hL 2 (by omega) (lv_at hl 0 rfl) (lv_at hl 3 rfl) dL_law_393 dL_law_394 dL_law_395 (by decide) dL_law_396 dL_law_397 ?_
  refine cv_I (w := fun S9 => wX G ad S9 ++ wM G am M) (S := S) (As := [.int (xs (i + 1)), .int (xs (i + 2))]) (rest := []) hC hK hA hX ((c_X7_pattern l G ad S hI.1 (xs (i + 1)) (xs (i + 2))).frame (wM G am M)) (cwV 2 hC.2.2.2.2 gL_law_X7_pattern rfl rfl rfl (by decide +kernel) ⟨Nat.le_of_ble_eq_true rfl, Nat.le_of_ble_eq_true rfl⟩) (ci := 7) (q := (RX7, TX7, 8)) rfl (q0 := 34) rfl dL_law_398 rfl hl.1 rfl (Nat.le_of_ble_eq_true rfl) ⟨by show cells + 0 ≤ 600000; omega, by show slots + 0 ≤ 7302250; omega⟩ (fun r9 S9 H9 locs9 hp9 hX9 => ?_)
  replace hX9 : HH G (fun q => s.heap.size ≤ q) s.heap (wX G ad S9 ++ wM G am M) H9 locs9 := hX9
  refine lv_aload_n hC.1 hC.2.1 dL_law_401 rfl (lv_at hl 2 rfl) ?_
  replace hX := hX9
  refine law_ld hC hX0 hbl hX hL 1 (by omega) (lv_at hl 0 rfl) (lv_at hl 3 rfl) dL_law_402 dL_law_403 dL_law_404 (by decide) dL_law_405 dL_law_406 ?_
  refine law_ld hC hX0 hbl hX hL 2 (by omega) (lv_at hl 0 rfl) (lv_at hl 3 rfl) dL_law_407 dL_law_408 dL_law_409 (by decide) dL_law_410 dL_law_411 ?_
  refine cv_I (w := fun M9 => wX G ad S9 ++ wM G am M9) (S := M) (As := [.int (xs (i + 1)), .int (xs (i + 2))]) (rest := [.int r9]) hC hK hA hX ((c_X8_pattern l G am M hI.2.1 (xs (i + 1)) (xs (i + 2))).frameL (wX G ad S9)) (cwV 2 hC.2.2.2.2 gL_law_X8_pattern rfl rfl rfl (by decide +kernel) ⟨Nat.le_of_ble_eq_true rfl, Nat.le_of_ble_eq_true rfl⟩) (ci := 8) (q := (RX8, TX8, 21)) rfl (q0 := (wX G ad S9).length) (wM_at rfl) dL_law_412 rfl hl.1 rfl (Nat.le_of_ble_eq_true rfl) ⟨by show cells + 0 + 0 ≤ 600000; omega, by show slots + 0 + 0 ≤ 7302250; omega⟩ (fun r8 M9 H8 locs8 hp8 hX8 => ?_)
  replace hX8 : HH G (fun q => s.heap.size ≤ q) s.heap (wX G ad S9 ++ wM G am M9) H8 locs8 := hX8
  obtain ⟨hr9, hI9⟩ := st_pattern hI hd (xs (i + 1)) (xs (i + 2)) hp9 hp8
  refine W.widen (k := cells + 3) (n := slots + 91) (by omega) (by omega) ?_
  refine lv_icmp_eq (tgt := 716) hC.1 hC.2.1 dL_law_415 (by decide) (fun c9 => ?_) (fun c9 => ?_)
  · exact kk _ _ _ _ _ hI9 hX8 hl
  · exact absurd hr9 c9
theorem lawc_takes {p : Program} {l : Launch} {e : Env} {s : State} {m : MethodId} {args : Array Value} {below : List Frame} {meth : Method} {c : Code} {H : Heap} {locs : List Loc} {cells slots : Nat} {Q : State → Prop} {ls : Array Slot} {G : GX} {b L : Nat} {xs : Nat → Int32} {ad am : Nat → Nat} {S : XS} {M : MS} {i : Nat} (hC : CallFix p m c cL_law 8 s args wsL_law RL) (hK : KK G s) (hX0 : va_X b L xs s s.heap) (hbl : b < s.heap.size) (hL : L ≤ 2560) (hi : i + 5 ≤ L) (hX : HH G (fun q => s.heap.size ≤ q) s.heap (wX G ad S ++ wM G am M) H locs) (hI : INV S M) (hl : lv_has ls 8 [(0, .ref b), (1, .ref (ad 34)), (2, .ref (am 0)), (3, .int (nI i))]) (hcs : cells + 3 ≤ 600000) (hsl : slots + 91 ≤ 7302250)
    (kk : ∀ (S2 : XS) (M2 : MS) (H1 : Heap) (locs1 : List Loc) (ls1 : Array Slot), INV S2 M2 → HH G (fun q => s.heap.size ≤ q) s.heap (wX G ad S2 ++ wM G am M2) H1 locs1 → lv_has ls1 8 [(0, .ref b), (1, .ref (ad 34)), (2, .ref (am 0)), (3, .int (nI i))] → W p l e room_1 s m args below meth c H1 locs1 (cells + 3) (slots + 91) Q (F0 m 716 ls1 [])) : W p l e room_1 s m args below meth c H locs cells slots Q (F0 m 420 ls []) := by
  have hA : ∀ q : Nat, s.heap.size ≤ q → (fun q => s.heap.size ≤ q) q := fun _ h => h
  have hd := noDup_of_hh hX
  refine lv_aload_n hC.1 hC.2.1 dL_law_420 rfl (lv_at hl 1 rfl) ?_
  refine law_ld hC hX0 hbl hX hL 1 (by omega) (lv_at hl 0 rfl) (lv_at hl 3 rfl) dL_law_421 dL_law_422 dL_law_423 (by decide) dL_law_424 dL_law_425 ?_
  refine law_ld hC hX0 hbl hX hL 2 (by omega) (lv_at hl 0 rfl) (lv_at hl 3 rfl) dL_law_426 dL_law_427 dL_law_428 (by decide) dL_law_429 dL_law_430 ?_
  refine cv_I (w := fun S9 => wX G ad S9 ++ wM G am M) (S := S) (As := [.int (xs (i + 1)), .int (xs (i + 2))]) (rest := []) hC hK hA hX ((c_X7_takes l G ad S hI.1 (xs (i + 1)) (xs (i + 2))).frame (wM G am M)) (cwV 2 hC.2.2.2.2 gL_law_X7_takes rfl rfl rfl (by decide +kernel) ⟨Nat.le_of_ble_eq_true rfl, Nat.le_of_ble_eq_true rfl⟩) (ci := 7) (q := (RX7, TX7, 8)) rfl (q0 := 34) rfl dL_law_431 rfl hl.1 rfl (Nat.le_of_ble_eq_true rfl) ⟨by show cells + 0 ≤ 600000; omega, by show slots + 0 ≤ 7302250; omega⟩ (fun r9 S9 H9 locs9 hp9 hX9 => ?_)
  replace hX9 : HH G (fun q => s.heap.size ≤ q) s.heap (wX G ad S9 ++ wM G am M) H9 locs9 := hX9
  refine lv_aload_n hC.1 hC.2.1 dL_law_434 rfl (lv_at hl 2 rfl) ?_
  replace hX := hX9
  refine law_ld hC hX0 hbl hX hL 1 (by omega) (lv_at hl 0 rfl) (lv_at hl 3 rfl) dL_law_435 dL_law_436 dL_law_437 (by decide) dL_law_438 dL_law_439 ?_
  refine law_ld hC hX0 hbl hX hL 2 (by omega) (lv_at hl 0 rfl) (lv_at hl 3 rfl) dL_law_440 dL_law_441 dL_law_442 (by decide) dL_law_443 dL_law_444 ?_
  refine cv_I (w := fun M9 => wX G ad S9 ++ wM G am M9) (S := M) (As := [.int (xs (i + 1)), .int (xs (i + 2))]) (rest := [.int r9]) hC hK hA hX ((c_X8_takes l G am M hI.2.1 (xs (i + 1)) (xs (i + 2))).frameL (wX G ad S9)) (cwV 2 hC.2.2.2.2 gL_law_X8_takes rfl rfl rfl (by decide +kernel) ⟨Nat.le_of_ble_eq_true rfl, Nat.le_of_ble_eq_true rfl⟩) (ci := 8) (q := (RX8, TX8, 21)) rfl (q0 := (wX G ad S9).length) (wM_at rfl) dL_law_445 rfl hl.1 rfl (Nat.le_of_ble_eq_true rfl) ⟨by show cells + 0 + 0 ≤ 600000; omega, by show slots + 0 + 0 ≤ 7302250; omega⟩ (fun r8 M9 H8 locs8 hp8 hX8 => ?_)
  replace hX8 : HH G (fun q => s.heap.size ≤ q) s.heap (wX G ad S9 ++ wM G am M9) H8 locs8 := hX8
  obtain ⟨hr9, hI9⟩ := st_takes hI hd (xs (i + 1)) (xs (i + 2)) hp9 hp8
  refine W.widen (k := cells + 3) (n := slots + 91) (by omega) (by omega) ?_
  refine lv_icmp_eq (tgt := 716) hC.1 hC.2.1 dL_law_448 (by decide) (fun c9 => ?_) (fun c9 => ?_)
  · exact kk _ _ _ _ _ hI9 hX8 hl
  · exact absurd hr9 c9
theorem lawc_end {p : Program} {l : Launch} {e : Env} {s : State} {m : MethodId} {args : Array Value} {below : List Frame} {meth : Method} {c : Code} {H : Heap} {locs : List Loc} {cells slots : Nat} {Q : State → Prop} {ls : Array Slot} {G : GX} {b L : Nat} {xs : Nat → Int32} {ad am : Nat → Nat} {S : XS} {M : MS} {i : Nat} (hC : CallFix p m c cL_law 8 s args wsL_law RL) (hK : KK G s) (hX0 : va_X b L xs s s.heap) (hbl : b < s.heap.size) (hL : L ≤ 2560) (hi : i + 5 ≤ L) (hX : HH G (fun q => s.heap.size ≤ q) s.heap (wX G ad S ++ wM G am M) H locs) (hI : INV S M) (hl : lv_has ls 8 [(0, .ref b), (1, .ref (ad 34)), (2, .ref (am 0)), (3, .int (nI i))]) (hcs : cells + 3 ≤ 600000) (hsl : slots + 91 ≤ 7302250)
    (kk : ∀ (S2 : XS) (M2 : MS) (H1 : Heap) (locs1 : List Loc) (ls1 : Array Slot), INV S2 M2 → HH G (fun q => s.heap.size ≤ q) s.heap (wX G ad S2 ++ wM G am M2) H1 locs1 → lv_has ls1 8 [(0, .ref b), (1, .ref (ad 34)), (2, .ref (am 0)), (3, .int (nI i))] → W p l e room_1 s m args below meth c H1 locs1 (cells + 3) (slots + 91) Q (F0 m 716 ls1 [])) : W p l e room_1 s m args below meth c H locs cells slots Q (F0 m 453 ls []) := by
  have hA : ∀ q : Nat, s.heap.size ≤ q → (fun q => s.heap.size ≤ q) q := fun _ h => h
  have hd := noDup_of_hh hX
  refine lv_aload_n hC.1 hC.2.1 dL_law_453 rfl (lv_at hl 1 rfl) ?_
  refine law_ld hC hX0 hbl hX hL 1 (by omega) (lv_at hl 0 rfl) (lv_at hl 3 rfl) dL_law_454 dL_law_455 dL_law_456 (by decide) dL_law_457 dL_law_458 ?_
  refine law_ld hC hX0 hbl hX hL 2 (by omega) (lv_at hl 0 rfl) (lv_at hl 3 rfl) dL_law_459 dL_law_460 dL_law_461 (by decide) dL_law_462 dL_law_463 ?_
  refine law_ld hC hX0 hbl hX hL 3 (by omega) (lv_at hl 0 rfl) (lv_at hl 3 rfl) dL_law_464 dL_law_465 dL_law_466 (by decide) dL_law_467 dL_law_468 ?_
  refine law_nz hC dL_law_469 dL_law_472 dL_law_473 dL_law_476 ?_
  refine law_ld hC hX0 hbl hX hL 4 (by omega) (lv_at hl 0 rfl) (lv_at hl 3 rfl) dL_law_477 dL_law_478 dL_law_479 (by decide) dL_law_480 dL_law_481 ?_
  refine cv_I (w := fun S9 => wX G ad S9 ++ wM G am M) (S := S) (As := [.int (xs (i + 1)), .int (xs (i + 2)), .int (bI (nz (xs (i + 3)))), .int (xs (i + 4))]) (rest := []) hC hK hA hX ((c_X7_end l G ad S hI.1 (xs (i + 1)) (xs (i + 2)) (nz (xs (i + 3))) (xs (i + 4))).frame (wM G am M)) (cwV 4 hC.2.2.2.2 gL_law_X7_end rfl rfl rfl (by decide +kernel) ⟨Nat.le_of_ble_eq_true rfl, Nat.le_of_ble_eq_true rfl⟩) (ci := 7) (q := (RX7, TX7, 8)) rfl (q0 := 34) rfl dL_law_482 rfl hl.1 rfl (Nat.le_of_ble_eq_true rfl) ⟨by show cells + 0 ≤ 600000; omega, by show slots + 0 ≤ 7302250; omega⟩ (fun r9 S9 H9 locs9 hp9 hX9 => ?_)
  replace hX9 : HH G (fun q => s.heap.size ≤ q) s.heap (wX G ad S9 ++ wM G am M) H9 locs9 := hX9
  refine lv_aload_n hC.1 hC.2.1 dL_law_485 rfl (lv_at hl 2 rfl) ?_
  replace hX := hX9
  refine law_ld hC hX0 hbl hX hL 1 (by omega) (lv_at hl 0 rfl) (lv_at hl 3 rfl) dL_law_486 dL_law_487 dL_law_488 (by decide) dL_law_489 dL_law_490 ?_
  refine law_ld hC hX0 hbl hX hL 2 (by omega) (lv_at hl 0 rfl) (lv_at hl 3 rfl) dL_law_491 dL_law_492 dL_law_493 (by decide) dL_law_494 dL_law_495 ?_
  refine law_ld hC hX0 hbl hX hL 3 (by omega) (lv_at hl 0 rfl) (lv_at hl 3 rfl) dL_law_496 dL_law_497 dL_law_498 (by decide) dL_law_499 dL_law_500 ?_
  refine law_nz hC dL_law_501 dL_law_504 dL_law_505 dL_law_508 ?_
  refine law_ld hC hX0 hbl hX hL 4 (by omega) (lv_at hl 0 rfl) (lv_at hl 3 rfl) dL_law_509 dL_law_510 dL_law_511 (by decide) dL_law_512 dL_law_513 ?_
  refine cv_I (w := fun M9 => wX G ad S9 ++ wM G am M9) (S := M) (As := [.int (xs (i + 1)), .int (xs (i + 2)), .int (bI (nz (xs (i + 3)))), .int (xs (i + 4))]) (rest := [.int r9]) hC hK hA hX ((c_X8_end l G am M hI.2.1 (xs (i + 1)) (xs (i + 2)) (nz (xs (i + 3))) (xs (i + 4))).frameL (wX G ad S9)) (cwV 4 hC.2.2.2.2 gL_law_X8_end rfl rfl rfl (by decide +kernel) ⟨Nat.le_of_ble_eq_true rfl, Nat.le_of_ble_eq_true rfl⟩) (ci := 8) (q := (RX8, TX8, 21)) rfl (q0 := (wX G ad S9).length) (wM_at rfl) dL_law_514 rfl hl.1 rfl (Nat.le_of_ble_eq_true rfl) ⟨by show cells + 0 + 0 ≤ 600000; omega, by show slots + 0 + 0 ≤ 7302250; omega⟩ (fun r8 M9 H8 locs8 hp8 hX8 => ?_)
  replace hX8 : HH G (fun q => s.heap.size ≤ q) s.heap (wX G ad S9 ++ wM G am M9) H8 locs8 := hX8
  obtain ⟨hr9, hI9⟩ := st_end hI hd (xs (i + 1)) (xs (i + 2)) (nz (xs (i + 3))) (xs (i + 4)) hp9 hp8
  refine W.widen (k := cells + 3) (n := slots + 91) (by omega) (by omega) ?_
  refine lv_icmp_eq (tgt := 716) hC.1 hC.2.1 dL_law_517 (by decide) (fun c9 => ?_) (fun c9 => ?_)
  · exact kk _ _ _ _ _ hI9 hX8 hl
  · exact absurd hr9 c9
theorem lawc_column {p : Program} {l : Launch} {e : Env} {s : State} {m : MethodId} {args : Array Value} {below : List Frame} {meth : Method} {c : Code} {H : Heap} {locs : List Loc} {cells slots : Nat} {Q : State → Prop} {ls : Array Slot} {G : GX} {b L : Nat} {xs : Nat → Int32} {ad am : Nat → Nat} {S : XS} {M : MS} {i : Nat} (hC : CallFix p m c cL_law 8 s args wsL_law RL) (hK : KK G s) (hX0 : va_X b L xs s s.heap) (hbl : b < s.heap.size) (hL : L ≤ 2560) (hi : i + 5 ≤ L) (hX : HH G (fun q => s.heap.size ≤ q) s.heap (wX G ad S ++ wM G am M) H locs) (hI : INV S M) (hl : lv_has ls 8 [(0, .ref b), (1, .ref (ad 34)), (2, .ref (am 0)), (3, .int (nI i))]) (hcs : cells + 3 ≤ 600000) (hsl : slots + 91 ≤ 7302250)
    (kk : ∀ (S2 : XS) (M2 : MS) (H1 : Heap) (locs1 : List Loc) (ls1 : Array Slot), INV S2 M2 → HH G (fun q => s.heap.size ≤ q) s.heap (wX G ad S2 ++ wM G am M2) H1 locs1 → lv_has ls1 8 [(0, .ref b), (1, .ref (ad 34)), (2, .ref (am 0)), (3, .int (nI i))] → W p l e room_1 s m args below meth c H1 locs1 (cells + 3) (slots + 91) Q (F0 m 716 ls1 [])) : W p l e room_1 s m args below meth c H locs cells slots Q (F0 m 522 ls []) := by
  have hA : ∀ q : Nat, s.heap.size ≤ q → (fun q => s.heap.size ≤ q) q := fun _ h => h
  have hd := noDup_of_hh hX
  refine lv_aload_n hC.1 hC.2.1 dL_law_522 rfl (lv_at hl 1 rfl) ?_
  refine law_ld hC hX0 hbl hX hL 1 (by omega) (lv_at hl 0 rfl) (lv_at hl 3 rfl) dL_law_523 dL_law_524 dL_law_525 (by decide) dL_law_526 dL_law_527 ?_
  refine law_ld hC hX0 hbl hX hL 2 (by omega) (lv_at hl 0 rfl) (lv_at hl 3 rfl) dL_law_528 dL_law_529 dL_law_530 (by decide) dL_law_531 dL_law_532 ?_
  refine law_ld hC hX0 hbl hX hL 3 (by omega) (lv_at hl 0 rfl) (lv_at hl 3 rfl) dL_law_533 dL_law_534 dL_law_535 (by decide) dL_law_536 dL_law_537 ?_
  refine cv_L (w := fun S9 => wX G ad S9 ++ wM G am M) (S := S) (As := [.int (xs (i + 1)), .int (xs (i + 2)), .int (xs (i + 3))]) (rest := []) hC hK hA hX ((c_X7_column l G ad S hI.1 (xs (i + 1)) (xs (i + 2)) (xs (i + 3))).frame (wM G am M)) (cwV 3 hC.2.2.2.2 gL_law_X7_column rfl rfl rfl (by decide +kernel) ⟨Nat.le_of_ble_eq_true rfl, Nat.le_of_ble_eq_true rfl⟩) (ci := 7) (q := (RX7, TX7, 8)) rfl (q0 := 34) rfl dL_law_538 rfl hl.1 rfl (Nat.le_of_ble_eq_true rfl) ⟨by show cells + 0 ≤ 600000; omega, by show slots + 0 ≤ 7302250; omega⟩ (fun r9 S9 H9 locs9 hp9 hX9 => ?_)
  replace hX9 : HH G (fun q => s.heap.size ≤ q) s.heap (wX G ad S9 ++ wM G am M) H9 locs9 := hX9
  refine lv_aload_n hC.1 hC.2.1 dL_law_541 rfl (lv_at hl 2 rfl) ?_
  replace hX := hX9
  refine law_ld hC hX0 hbl hX hL 1 (by omega) (lv_at hl 0 rfl) (lv_at hl 3 rfl) dL_law_542 dL_law_543 dL_law_544 (by decide) dL_law_545 dL_law_546 ?_
  refine law_ld hC hX0 hbl hX hL 2 (by omega) (lv_at hl 0 rfl) (lv_at hl 3 rfl) dL_law_547 dL_law_548 dL_law_549 (by decide) dL_law_550 dL_law_551 ?_
  refine law_ld hC hX0 hbl hX hL 3 (by omega) (lv_at hl 0 rfl) (lv_at hl 3 rfl) dL_law_552 dL_law_553 dL_law_554 (by decide) dL_law_555 dL_law_556 ?_
  refine cv_L (w := fun M9 => wX G ad S9 ++ wM G am M9) (S := M) (As := [.int (xs (i + 1)), .int (xs (i + 2)), .int (xs (i + 3))]) (rest := [.long r9]) hC hK hA hX ((c_X8_column l G am M hI.2.1 (xs (i + 1)) (xs (i + 2)) (xs (i + 3))).frameL (wX G ad S9)) (cwV 3 hC.2.2.2.2 gL_law_X8_column rfl rfl rfl (by decide +kernel) ⟨Nat.le_of_ble_eq_true rfl, Nat.le_of_ble_eq_true rfl⟩) (ci := 8) (q := (RX8, TX8, 21)) rfl (q0 := (wX G ad S9).length) (wM_at rfl) dL_law_557 rfl hl.1 rfl (Nat.le_of_ble_eq_true rfl) ⟨by show cells + 0 + 0 ≤ 600000; omega, by show slots + 0 + 0 ≤ 7302250; omega⟩ (fun r8 M9 H8 locs8 hp8 hX8 => ?_)
  replace hX8 : HH G (fun q => s.heap.size ≤ q) s.heap (wX G ad S9 ++ wM G am M9) H8 locs8 := hX8
  obtain ⟨hr9, hI9⟩ := st_column hI hd (xs (i + 1)) (xs (i + 2)) (xs (i + 3)) hp9 hp8
  refine W.widen (k := cells + 3) (n := slots + 91) (by omega) (by omega) ?_
  refine W.lcmp hC.1 hC.2.1 dL_law_560 ?_
  refine lv_if_eq (tgt := 716) hC.1 hC.2.1 dL_law_561 (by decide) (fun c9 => ?_) (fun c9 => ?_)
  · exact kk _ _ _ _ _ hI9 hX8 hl
  · exact absurd (by rw [hr9]; exact lg_self9 _) c9
theorem lawc_slips {p : Program} {l : Launch} {e : Env} {s : State} {m : MethodId} {args : Array Value} {below : List Frame} {meth : Method} {c : Code} {H : Heap} {locs : List Loc} {cells slots : Nat} {Q : State → Prop} {ls : Array Slot} {G : GX} {b L : Nat} {xs : Nat → Int32} {ad am : Nat → Nat} {S : XS} {M : MS} {i : Nat} (hC : CallFix p m c cL_law 8 s args wsL_law RL) (hK : KK G s) (hX0 : va_X b L xs s s.heap) (hbl : b < s.heap.size) (hL : L ≤ 2560) (hi : i + 5 ≤ L) (hX : HH G (fun q => s.heap.size ≤ q) s.heap (wX G ad S ++ wM G am M) H locs) (hI : INV S M) (hl : lv_has ls 8 [(0, .ref b), (1, .ref (ad 34)), (2, .ref (am 0)), (3, .int (nI i))]) (hcs : cells + 3 ≤ 600000) (hsl : slots + 91 ≤ 7302250)
    (kk : ∀ (S2 : XS) (M2 : MS) (H1 : Heap) (locs1 : List Loc) (ls1 : Array Slot), INV S2 M2 → HH G (fun q => s.heap.size ≤ q) s.heap (wX G ad S2 ++ wM G am M2) H1 locs1 → lv_has ls1 8 [(0, .ref b), (1, .ref (ad 34)), (2, .ref (am 0)), (3, .int (nI i))] → W p l e room_1 s m args below meth c H1 locs1 (cells + 3) (slots + 91) Q (F0 m 716 ls1 [])) : W p l e room_1 s m args below meth c H locs cells slots Q (F0 m 566 ls []) := by
  have hA : ∀ q : Nat, s.heap.size ≤ q → (fun q => s.heap.size ≤ q) q := fun _ h => h
  have hd := noDup_of_hh hX
  refine lv_aload_n hC.1 hC.2.1 dL_law_566 rfl (lv_at hl 1 rfl) ?_
  refine law_ld hC hX0 hbl hX hL 1 (by omega) (lv_at hl 0 rfl) (lv_at hl 3 rfl) dL_law_567 dL_law_568 dL_law_569 (by decide) dL_law_570 dL_law_571 ?_
  refine law_ld hC hX0 hbl hX hL 2 (by omega) (lv_at hl 0 rfl) (lv_at hl 3 rfl) dL_law_572 dL_law_573 dL_law_574 (by decide) dL_law_575 dL_law_576 ?_
  refine law_ld hC hX0 hbl hX hL 3 (by omega) (lv_at hl 0 rfl) (lv_at hl 3 rfl) dL_law_577 dL_law_578 dL_law_579 (by decide) dL_law_580 dL_law_581 ?_
  refine law_ld hC hX0 hbl hX hL 4 (by omega) (lv_at hl 0 rfl) (lv_at hl 3 rfl) dL_law_582 dL_law_583 dL_law_584 (by decide) dL_law_585 dL_law_586 ?_
  refine cv_I (w := fun S9 => wX G ad S9 ++ wM G am M) (S := S) (As := [.int (xs (i + 1)), .int (xs (i + 2)), .int (xs (i + 3)), .int (xs (i + 4))]) (rest := []) hC hK hA hX ((c_X7_slips l G ad S hI.1 (xs (i + 1)) (xs (i + 2)) (xs (i + 3)) (xs (i + 4))).frame (wM G am M)) (cwV 4 hC.2.2.2.2 gL_law_X7_slips rfl rfl rfl (by decide +kernel) ⟨Nat.le_of_ble_eq_true rfl, Nat.le_of_ble_eq_true rfl⟩) (ci := 7) (q := (RX7, TX7, 8)) rfl (q0 := 34) rfl dL_law_587 rfl hl.1 rfl (Nat.le_of_ble_eq_true rfl) ⟨by show cells + 0 ≤ 600000; omega, by show slots + 0 ≤ 7302250; omega⟩ (fun r9 S9 H9 locs9 hp9 hX9 => ?_)
  replace hX9 : HH G (fun q => s.heap.size ≤ q) s.heap (wX G ad S9 ++ wM G am M) H9 locs9 := hX9
  refine lv_aload_n hC.1 hC.2.1 dL_law_590 rfl (lv_at hl 2 rfl) ?_
  replace hX := hX9
  refine law_ld hC hX0 hbl hX hL 1 (by omega) (lv_at hl 0 rfl) (lv_at hl 3 rfl) dL_law_591 dL_law_592 dL_law_593 (by decide) dL_law_594 dL_law_595 ?_
  refine law_ld hC hX0 hbl hX hL 2 (by omega) (lv_at hl 0 rfl) (lv_at hl 3 rfl) dL_law_596 dL_law_597 dL_law_598 (by decide) dL_law_599 dL_law_600 ?_
  refine law_ld hC hX0 hbl hX hL 3 (by omega) (lv_at hl 0 rfl) (lv_at hl 3 rfl) dL_law_601 dL_law_602 dL_law_603 (by decide) dL_law_604 dL_law_605 ?_
  refine law_ld hC hX0 hbl hX hL 4 (by omega) (lv_at hl 0 rfl) (lv_at hl 3 rfl) dL_law_606 dL_law_607 dL_law_608 (by decide) dL_law_609 dL_law_610 ?_
  refine cv_I (w := fun M9 => wX G ad S9 ++ wM G am M9) (S := M) (As := [.int (xs (i + 1)), .int (xs (i + 2)), .int (xs (i + 3)), .int (xs (i + 4))]) (rest := [.int r9]) hC hK hA hX ((c_X8_slips l G am M hI.2.1 (xs (i + 1)) (xs (i + 2)) (xs (i + 3)) (xs (i + 4))).frameL (wX G ad S9)) (cwV 4 hC.2.2.2.2 gL_law_X8_slips rfl rfl rfl (by decide +kernel) ⟨Nat.le_of_ble_eq_true rfl, Nat.le_of_ble_eq_true rfl⟩) (ci := 8) (q := (RX8, TX8, 21)) rfl (q0 := (wX G ad S9).length) (wM_at rfl) dL_law_611 rfl hl.1 rfl (Nat.le_of_ble_eq_true rfl) ⟨by show cells + 0 + 0 ≤ 600000; omega, by show slots + 0 + 0 ≤ 7302250; omega⟩ (fun r8 M9 H8 locs8 hp8 hX8 => ?_)
  replace hX8 : HH G (fun q => s.heap.size ≤ q) s.heap (wX G ad S9 ++ wM G am M9) H8 locs8 := hX8
  obtain ⟨hr9, hI9⟩ := st_slips hI hd (xs (i + 1)) (xs (i + 2)) (xs (i + 3)) (xs (i + 4)) hp9 hp8
  refine W.widen (k := cells + 3) (n := slots + 91) (by omega) (by omega) ?_
  refine lv_icmp_eq (tgt := 716) hC.1 hC.2.1 dL_law_614 (by decide) (fun c9 => ?_) (fun c9 => ?_)
  · exact kk _ _ _ _ _ hI9 hX8 hl
  · exact absurd hr9 c9
theorem lawc_density {p : Program} {l : Launch} {e : Env} {s : State} {m : MethodId} {args : Array Value} {below : List Frame} {meth : Method} {c : Code} {H : Heap} {locs : List Loc} {cells slots : Nat} {Q : State → Prop} {ls : Array Slot} {G : GX} {b L : Nat} {xs : Nat → Int32} {ad am : Nat → Nat} {S : XS} {M : MS} {i : Nat} (hC : CallFix p m c cL_law 8 s args wsL_law RL) (hK : KK G s) (hX0 : va_X b L xs s s.heap) (hbl : b < s.heap.size) (hL : L ≤ 2560) (hi : i + 5 ≤ L) (hX : HH G (fun q => s.heap.size ≤ q) s.heap (wX G ad S ++ wM G am M) H locs) (hI : INV S M) (hl : lv_has ls 8 [(0, .ref b), (1, .ref (ad 34)), (2, .ref (am 0)), (3, .int (nI i))]) (hcs : cells + 3 ≤ 600000) (hsl : slots + 91 ≤ 7302250)
    (kk : ∀ (S2 : XS) (M2 : MS) (H1 : Heap) (locs1 : List Loc) (ls1 : Array Slot), INV S2 M2 → HH G (fun q => s.heap.size ≤ q) s.heap (wX G ad S2 ++ wM G am M2) H1 locs1 → lv_has ls1 8 [(0, .ref b), (1, .ref (ad 34)), (2, .ref (am 0)), (3, .int (nI i))] → W p l e room_1 s m args below meth c H1 locs1 (cells + 3) (slots + 91) Q (F0 m 716 ls1 [])) : W p l e room_1 s m args below meth c H locs cells slots Q (F0 m 619 ls []) := by
  have hA : ∀ q : Nat, s.heap.size ≤ q → (fun q => s.heap.size ≤ q) q := fun _ h => h
  have hd := noDup_of_hh hX
  refine lv_aload_n hC.1 hC.2.1 dL_law_619 rfl (lv_at hl 1 rfl) ?_
  refine law_ld hC hX0 hbl hX hL 1 (by omega) (lv_at hl 0 rfl) (lv_at hl 3 rfl) dL_law_620 dL_law_621 dL_law_622 (by decide) dL_law_623 dL_law_624 ?_
  refine cv_D (w := fun S9 => wX G ad S9 ++ wM G am M) (S := S) (As := [.int (xs (i + 1))]) (rest := []) hC hK hA hX ((c_X7_density l G ad S hI.1 (xs (i + 1))).frame (wM G am M)) (cwV 1 hC.2.2.2.2 gL_law_X7_density rfl rfl rfl (by decide +kernel) ⟨Nat.le_of_ble_eq_true rfl, Nat.le_of_ble_eq_true rfl⟩) (ci := 7) (q := (RX7, TX7, 8)) rfl (q0 := 34) rfl dL_law_625 rfl hl.1 rfl (Nat.le_of_ble_eq_true rfl) ⟨by show cells + 0 ≤ 600000; omega, by show slots + 0 ≤ 7302250; omega⟩ (fun r9 S9 H9 locs9 hp9 hX9 => ?_)
  replace hX9 : HH G (fun q => s.heap.size ≤ q) s.heap (wX G ad S9 ++ wM G am M) H9 locs9 := hX9
  refine lv_dstore (lv' := [(4, .double r9), (0, .ref b), (1, .ref (ad 34)), (2, .ref (am 0)), (3, .int (nI i))]) hC.1 hC.2.1 dL_law_628 hl (by decide) rfl (fun ls hl => ?_)
  refine lv_aload_n hC.1 hC.2.1 dL_law_630 rfl (lv_at hl 3 rfl) ?_
  replace hX := hX9
  refine law_ld hC hX0 hbl hX hL 1 (by omega) (lv_at hl 1 rfl) (lv_at hl 4 rfl) dL_law_631 dL_law_632 dL_law_633 (by decide) dL_law_634 dL_law_635 ?_
  refine cv_D (w := fun M9 => wX G ad S9 ++ wM G am M9) (S := M) (As := [.int (xs (i + 1))]) (rest := []) hC hK hA hX ((c_X8_density l G am M hI.2.1 (xs (i + 1))).frameL (wX G ad S9)) (cwV 1 hC.2.2.2.2 gL_law_X8_density rfl rfl rfl (by decide +kernel) ⟨Nat.le_of_ble_eq_true rfl, Nat.le_of_ble_eq_true rfl⟩) (ci := 8) (q := (RX8, TX8, 21)) rfl (q0 := (wX G ad S9).length) (wM_at rfl) dL_law_636 rfl hl.1 rfl (Nat.le_of_ble_eq_true rfl) ⟨by show cells + 0 + 0 ≤ 600000; omega, by show slots + 0 + 0 ≤ 7302250; omega⟩ (fun r8 M9 H8 locs8 hp8 hX8 => ?_)
  replace hX8 : HH G (fun q => s.heap.size ≤ q) s.heap (wX G ad S9 ++ wM G am M9) H8 locs8 := hX8
  obtain ⟨hr9, hI9⟩ := st_density hI hd (xs (i + 1)) hp9 hp8
  refine W.widen (k := cells + 3) (n := slots + 91) (by omega) (by omega) ?_
  refine lv_dstore (lv' := [(6, .double r8), (4, .double r9), (0, .ref b), (1, .ref (ad 34)), (2, .ref (am 0)), (3, .int (nI i))]) hC.1 hC.2.1 dL_law_639 hl (by decide) rfl (fun ls hl => ?_)
  subst hr9
  refine lv_dload hC.1 hC.2.1 dL_law_641 (lv_at hl 1 rfl) ?_
  refine lv_dload hC.1 hC.2.1 dL_law_643 (lv_at hl 0 rfl) ?_
  refine lv_dcmp hC.1 hC.2.1 dL_law_645 ?_
  have hk9 : W p l e room_1 s m args below meth c H8 locs8 (cells + 3) (slots + 91) Q (F0 m 667 ls []) := by
    refine lv_goto (tgt := 716) hC.1 hC.2.1 dL_law_667 (by decide) ?_
    exact kk _ _ _ _ _ hI9 hX8 (lv_sub hl [2, 3, 4, 5] rfl)
  refine lv_if_eq (tgt := 667) hC.1 hC.2.1 dL_law_646 (by decide) (fun c9 => hk9) (fun c9 => ?_)
  refine lv_dload hC.1 hC.2.1 dL_law_649 (lv_at hl 1 rfl) ?_
  refine lv_dload hC.1 hC.2.1 dL_law_651 (lv_at hl 1 rfl) ?_
  refine lv_dcmp hC.1 hC.2.1 dL_law_653 ?_
  refine lv_if_eq (tgt := 665) hC.1 hC.2.1 dL_law_654 (by decide) (fun c8 => absurd c8 c9) (fun c8 => ?_)
  refine lv_dload hC.1 hC.2.1 dL_law_657 (lv_at hl 0 rfl) ?_
  refine lv_dload hC.1 hC.2.1 dL_law_659 (lv_at hl 0 rfl) ?_
  refine lv_dcmp hC.1 hC.2.1 dL_law_661 ?_
  exact lv_if_ne (tgt := 667) hC.1 hC.2.1 dL_law_662 (by decide) (fun c7 => hk9) (fun c7 => absurd c7 c9)
theorem lawc_densityBits {p : Program} {l : Launch} {e : Env} {s : State} {m : MethodId} {args : Array Value} {below : List Frame} {meth : Method} {c : Code} {H : Heap} {locs : List Loc} {cells slots : Nat} {Q : State → Prop} {ls : Array Slot} {G : GX} {b L : Nat} {xs : Nat → Int32} {ad am : Nat → Nat} {S : XS} {M : MS} {i : Nat} (hC : CallFix p m c cL_law 8 s args wsL_law RL) (hK : KK G s) (hX0 : va_X b L xs s s.heap) (hbl : b < s.heap.size) (hL : L ≤ 2560) (hi : i + 5 ≤ L) (hX : HH G (fun q => s.heap.size ≤ q) s.heap (wX G ad S ++ wM G am M) H locs) (hI : INV S M) (hl : lv_has ls 8 [(0, .ref b), (1, .ref (ad 34)), (2, .ref (am 0)), (3, .int (nI i))]) (hcs : cells + 3 ≤ 600000) (hsl : slots + 91 ≤ 7302250)
    (kk : ∀ (S2 : XS) (M2 : MS) (H1 : Heap) (locs1 : List Loc) (ls1 : Array Slot), INV S2 M2 → HH G (fun q => s.heap.size ≤ q) s.heap (wX G ad S2 ++ wM G am M2) H1 locs1 → lv_has ls1 8 [(0, .ref b), (1, .ref (ad 34)), (2, .ref (am 0)), (3, .int (nI i))] → W p l e room_1 s m args below meth c H1 locs1 (cells + 3) (slots + 91) Q (F0 m 716 ls1 [])) : W p l e room_1 s m args below meth c H locs cells slots Q (F0 m 670 ls []) := by
  have hA : ∀ q : Nat, s.heap.size ≤ q → (fun q => s.heap.size ≤ q) q := fun _ h => h
  have hd := noDup_of_hh hX
  refine lv_aload_n hC.1 hC.2.1 dL_law_670 rfl (lv_at hl 1 rfl) ?_
  refine law_ld hC hX0 hbl hX hL 1 (by omega) (lv_at hl 0 rfl) (lv_at hl 3 rfl) dL_law_671 dL_law_672 dL_law_673 (by decide) dL_law_674 dL_law_675 ?_
  refine cv_I (w := fun S9 => wX G ad S9 ++ wM G am M) (S := S) (As := [.int (xs (i + 1))]) (rest := []) hC hK hA hX ((c_X7_densityBits l G ad S hI.1 (xs (i + 1))).frame (wM G am M)) (cwV 1 hC.2.2.2.2 gL_law_X7_densityBits rfl rfl rfl (by decide +kernel) ⟨Nat.le_of_ble_eq_true rfl, Nat.le_of_ble_eq_true rfl⟩) (ci := 7) (q := (RX7, TX7, 8)) rfl (q0 := 34) rfl dL_law_676 rfl hl.1 rfl (Nat.le_of_ble_eq_true rfl) ⟨by show cells + 0 ≤ 600000; omega, by show slots + 0 ≤ 7302250; omega⟩ (fun r9 S9 H9 locs9 hp9 hX9 => ?_)
  replace hX9 : HH G (fun q => s.heap.size ≤ q) s.heap (wX G ad S9 ++ wM G am M) H9 locs9 := hX9
  refine lv_aload_n hC.1 hC.2.1 dL_law_679 rfl (lv_at hl 2 rfl) ?_
  replace hX := hX9
  refine law_ld hC hX0 hbl hX hL 1 (by omega) (lv_at hl 0 rfl) (lv_at hl 3 rfl) dL_law_680 dL_law_681 dL_law_682 (by decide) dL_law_683 dL_law_684 ?_
  refine cv_I (w := fun M9 => wX G ad S9 ++ wM G am M9) (S := M) (As := [.int (xs (i + 1))]) (rest := [.int r9]) hC hK hA hX ((c_X8_densityBits l G am M hI.2.1 (xs (i + 1))).frameL (wX G ad S9)) (cwV 1 hC.2.2.2.2 gL_law_X8_densityBits rfl rfl rfl (by decide +kernel) ⟨Nat.le_of_ble_eq_true rfl, Nat.le_of_ble_eq_true rfl⟩) (ci := 8) (q := (RX8, TX8, 21)) rfl (q0 := (wX G ad S9).length) (wM_at rfl) dL_law_685 rfl hl.1 rfl (Nat.le_of_ble_eq_true rfl) ⟨by show cells + 0 + 0 ≤ 600000; omega, by show slots + 0 + 0 ≤ 7302250; omega⟩ (fun r8 M9 H8 locs8 hp8 hX8 => ?_)
  replace hX8 : HH G (fun q => s.heap.size ≤ q) s.heap (wX G ad S9 ++ wM G am M9) H8 locs8 := hX8
  obtain ⟨hr9, hI9⟩ := st_densityBits hI hd (xs (i + 1)) hp9 hp8
  refine W.widen (k := cells + 3) (n := slots + 91) (by omega) (by omega) ?_
  refine lv_icmp_eq (tgt := 716) hC.1 hC.2.1 dL_law_688 (by decide) (fun c9 => ?_) (fun c9 => ?_)
  · exact kk _ _ _ _ _ hI9 hX8 hl
  · exact absurd hr9 c9
theorem lawc_count {p : Program} {l : Launch} {e : Env} {s : State} {m : MethodId} {args : Array Value} {below : List Frame} {meth : Method} {c : Code} {H : Heap} {locs : List Loc} {cells slots : Nat} {Q : State → Prop} {ls : Array Slot} {G : GX} {b L : Nat} {xs : Nat → Int32} {ad am : Nat → Nat} {S : XS} {M : MS} {i : Nat} (hC : CallFix p m c cL_law 8 s args wsL_law RL) (hK : KK G s) (hX0 : va_X b L xs s s.heap) (hbl : b < s.heap.size) (hL : L ≤ 2560) (hi : i + 5 ≤ L) (hX : HH G (fun q => s.heap.size ≤ q) s.heap (wX G ad S ++ wM G am M) H locs) (hI : INV S M) (hl : lv_has ls 8 [(0, .ref b), (1, .ref (ad 34)), (2, .ref (am 0)), (3, .int (nI i))]) (hcs : cells + 3 ≤ 600000) (hsl : slots + 91 ≤ 7302250)
    (kk : ∀ (S2 : XS) (M2 : MS) (H1 : Heap) (locs1 : List Loc) (ls1 : Array Slot), INV S2 M2 → HH G (fun q => s.heap.size ≤ q) s.heap (wX G ad S2 ++ wM G am M2) H1 locs1 → lv_has ls1 8 [(0, .ref b), (1, .ref (ad 34)), (2, .ref (am 0)), (3, .int (nI i))] → W p l e room_1 s m args below meth c H1 locs1 (cells + 3) (slots + 91) Q (F0 m 716 ls1 [])) : W p l e room_1 s m args below meth c H locs cells slots Q (F0 m 693 ls []) := by
  have hA : ∀ q : Nat, s.heap.size ≤ q → (fun q => s.heap.size ≤ q) q := fun _ h => h
  have hd := noDup_of_hh hX
  refine lv_aload_n hC.1 hC.2.1 dL_law_693 rfl (lv_at hl 1 rfl) ?_
  refine law_ld hC hX0 hbl hX hL 1 (by omega) (lv_at hl 0 rfl) (lv_at hl 3 rfl) dL_law_694 dL_law_695 dL_law_696 (by decide) dL_law_697 dL_law_698 ?_
  refine cv_I (w := fun S9 => wX G ad S9 ++ wM G am M) (S := S) (As := [.int (xs (i + 1))]) (rest := []) hC hK hA hX ((c_X7_count l G ad S hI.1 hd (xs (i + 1))).frame (wM G am M)) (cwV 1 hC.2.2.2.2 gL_law_X7_count rfl rfl rfl (by decide +kernel) ⟨Nat.le_of_ble_eq_true rfl, Nat.le_of_ble_eq_true rfl⟩) (ci := 7) (q := (RX7, TX7, 8)) rfl (q0 := 34) rfl dL_law_699 rfl hl.1 rfl (Nat.le_of_ble_eq_true rfl) ⟨by show cells + 0 ≤ 600000; omega, by show slots + 0 ≤ 7302250; omega⟩ (fun r9 S9 H9 locs9 hp9 hX9 => ?_)
  replace hX9 : HH G (fun q => s.heap.size ≤ q) s.heap (wX G ad S9 ++ wM G am M) H9 locs9 := hX9
  refine lv_aload_n hC.1 hC.2.1 dL_law_702 rfl (lv_at hl 2 rfl) ?_
  replace hX := hX9
  refine law_ld hC hX0 hbl hX hL 1 (by omega) (lv_at hl 0 rfl) (lv_at hl 3 rfl) dL_law_703 dL_law_704 dL_law_705 (by decide) dL_law_706 dL_law_707 ?_
  refine cv_I (w := fun M9 => wX G ad S9 ++ wM G am M9) (S := M) (As := [.int (xs (i + 1))]) (rest := [.int r9]) hC hK hA hX ((c_X8_count l G am M hI.2.1 (xs (i + 1))).frameL (wX G ad S9)) (cwV 1 hC.2.2.2.2 gL_law_X8_count rfl rfl rfl (by decide +kernel) ⟨Nat.le_of_ble_eq_true rfl, Nat.le_of_ble_eq_true rfl⟩) (ci := 8) (q := (RX8, TX8, 21)) rfl (q0 := (wX G ad S9).length) (wM_at rfl) dL_law_708 rfl hl.1 rfl (Nat.le_of_ble_eq_true rfl) ⟨by show cells + 0 + 0 ≤ 600000; omega, by show slots + 0 + 0 ≤ 7302250; omega⟩ (fun r8 M9 H8 locs8 hp8 hX8 => ?_)
  replace hX8 : HH G (fun q => s.heap.size ≤ q) s.heap (wX G ad S9 ++ wM G am M9) H8 locs8 := hX8
  obtain ⟨hr9, hI9⟩ := st_count hI hd (xs (i + 1)) hp9 hp8
  refine W.widen (k := cells + 3) (n := slots + 91) (by omega) (by omega) ?_
  refine lv_icmp_eq (tgt := 716) hC.1 hC.2.1 dL_law_711 (by decide) (fun c9 => ?_) (fun c9 => ?_)
  · exact kk _ _ _ _ _ hI9 hX8 hl
  · exact absurd hr9 c9