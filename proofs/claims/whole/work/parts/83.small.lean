/-! small rows for the law's walk -/
theorem noDup_of_hh {G : GX} {A : Nat → Prop} {H0 H : Heap} {locs : List Loc} {ad : Nat → Nat} {S : XS} {w2 : va_W} (hX : HH G A H0 (wX G ad S ++ w2) H locs) : noDup S := fun i j a b ha hb e => by
  have h := hX.2.1.left.1 (35 + 3 * i) (35 + 3 * j) _ _ (wX_pa ha) (wX_pa hb) e
  obtain rfl : i = j := by omega
  exact Option.some.inj (ha.symm.trans hb)
theorem okSt_0 : okSt x_S0 st_0 := ⟨⟨fun _ => by show 0 < 65536; decide, fun i hi => absurd hi (Nat.not_lt_zero _)⟩, by decide, by decide, by decide, fun i hi b hb => (by cases hb), fun j hj => absurd hj (Nat.not_lt_zero _)⟩
theorem INV_0 : INV x_S0 m_S0 := by
  refine ⟨⟨okSt_0, fun h => absurd h (by decide), fun k hk => absurd hk (Nat.not_lt_zero _), fun i hi => hi, fun i j _ _ h => h, Nat.zero_le _, Nat.zero_le _, fun _ => by show 0 < 65536; decide, by decide, by decide, fun q k h => by cases h⟩, ⟨⟨?_, ?_, ?_, fun i hi => ?_, fun p hp => ⟨?_, ?_, fun j hj => ?_⟩⟩, Nat.zero_le _, fun k hk => absurd hk (Nat.not_lt_zero _), fun h => absurd h (by decide), by decide, Nat.zero_le _, fun _ => by show 0 < 65536; decide⟩, ⟨fun _ => by show 0 < 65536; decide, fun _ _ => by show 0 < 65536; decide⟩, ⟨?_, ?_, ?_, fun i hi => absurd hi (Nat.not_lt_zero _), fun j hj => absurd hj (Nat.not_lt_zero _)⟩, rfl, fun h => absurd h (by decide), rfl, fun k hk => absurd hk (Nat.not_lt_zero _), rfl, fun i hi => absurd hi (Nat.not_lt_zero _)⟩
  · show va_up (fun _ => 0) 2 1 0 ≤ 120; decide
  · show va_up (fun _ => 0) 2 1 1 ≤ 6; decide
  · show va_up (fun _ => 0) 2 1 2 ≤ 4; decide
  · show va_up (fun _ => 0) 2 1 (3 + i) < 27
    rw [va_up_ne _ _ (by omega)]; decide
  · show va_up (fun _ => 0) 2 1 (123 + 62 * p) ≤ 60
    rw [va_up_ne _ _ (by omega)]; decide
  · show va_up (fun _ => 0) 2 1 (124 + 62 * p) < 2
    rw [va_up_ne _ _ (by omega)]; decide
  · show va_up (fun _ => 0) 2 1 (125 + 62 * p + j) < 134217728
    rw [va_up_ne _ _ (by omega)]; decide
  · show 0 = va_up (fun _ => 0) 2 1 0; decide
  · show 0 = va_up (fun _ => 0) 2 1 1; decide
  · show 1 = va_up (fun _ => 0) 2 1 2; decide
def ch16 (x : Int32) : Nat := (x.toUInt32 % 65536).toNat
theorem ch16_lt (x : Int32) : ch16 x < 65536 := by
  unfold ch16
  rw [UInt32.toNat_mod]
  exact Nat.mod_lt _ (by decide)
theorem u_i32 (u : UInt32) : u.toInt32 = Int32.ofNat u.toNat := Int32.toBitVec_inj.mp (by
  show u.toBitVec = BitVec.ofNat 32 u.toBitVec.toNat
  simp)
theorem ch16_i (x : Int32) : (x.toUInt32 % 65536).toInt32 = nI (ch16 x) := u_i32 _
def nz (x : Int32) : Bool := decide (x ≠ 0)
theorem law_in {L i : Nat} (hL : L ≤ 2560) (hi : i ≤ L) : nI L - Int32.ofInt 5 < nI i ↔ L < i + 5 := by
  rw [Int32.lt_iff_toInt_lt, show Int32.ofInt 5 = nI 5 from rfl, pk_sub_toInt (by omega) (by omega), nI_toInt (by omega)]
  omega
section LAWR
variable {p : Program} {l : Launch} {e : Env} {s : State} {m : MethodId} {args : Array Value} {below : List Frame} {meth : Method} {c : Code} {H : Heap} {locs : List Loc} {cells slots : Nat} {Q : State → Prop} {ls : Array Slot} {rest : List Value} {G : GX} {b L : Nat} {xs : Nat → Int32} {ws : va_W} {i pc k : Nat}
theorem law_ld (hC : CallFix p m c cL_law 8 s args wsL_law RL) (hX0 : va_X b L xs s s.heap) (hbl : b < s.heap.size) (hX : HH G (fun q => s.heap.size ≤ q) s.heap ws H locs) (hL : L ≤ 2560) (k : Nat) (hk : i + k < L) (hl0 : ls[0]? = some (.val (.ref b))) (hl3 : ls[3]? = some (.val (.int (nI i))))
    {z : Int} (h0 : decode cL_law pc = .ok (.aload_n 0, 1)) (h1 : decode cL_law (pc + 1) = .ok (.iload_n 3, 1)) (h2 : decode cL_law (pc + 2) = .ok (.iconst z, 1)) (hz : Int32.ofInt z = nI k) (h3 : decode cL_law (pc + 3) = .ok (.iadd, 1)) (h4 : decode cL_law (pc + 4) = .ok (.iaload, 1))
    (kk : W p l e room_1 s m args below meth c H locs cells slots Q (F0 m (pc + 5) ls (.int (xs (i + k)) :: rest))) : W p l e room_1 s m args below meth c H locs cells slots Q (F0 m pc ls rest) := by
  refine lv_aload_n hC.1 hC.2.1 h0 rfl hl0 ?_
  refine lv_iload_n hC.1 hC.2.1 h1 rfl hl3 ?_
  refine lv_iconst (v := nI k) hC.1 hC.2.1 h2 hz ?_
  refine n_add hC h3 ?_
  refine va_sld hC.1 hC.2.1 hX0 hbl (Nat.not_le.mpr hbl) hX.2.2 (vp_in_nI hk (by omega)) h4 ?_
  rw [nI_clamp (by omega)]
  exact kk
theorem law_ld0 (hC : CallFix p m c cL_law 8 s args wsL_law RL) (hX0 : va_X b L xs s s.heap) (hbl : b < s.heap.size) (hX : HH G (fun q => s.heap.size ≤ q) s.heap ws H locs) (hL : L ≤ 2560) (hk : i < L) (hl0 : ls[0]? = some (.val (.ref b))) (hl3 : ls[3]? = some (.val (.int (nI i))))
    (h0 : decode cL_law pc = .ok (.aload_n 0, 1)) (h1 : decode cL_law (pc + 1) = .ok (.iload_n 3, 1)) (h4 : decode cL_law (pc + 2) = .ok (.iaload, 1))
    (kk : W p l e room_1 s m args below meth c H locs cells slots Q (F0 m (pc + 3) ls (.int (xs i) :: rest))) : W p l e room_1 s m args below meth c H locs cells slots Q (F0 m pc ls rest) := by
  refine lv_aload_n hC.1 hC.2.1 h0 rfl hl0 ?_
  refine lv_iload_n hC.1 hC.2.1 h1 rfl hl3 ?_
  refine va_sld hC.1 hC.2.1 hX0 hbl (Nat.not_le.mpr hbl) hX.2.2 (vp_in_nI hk (by omega)) h4 ?_
  rw [nI_clamp (by omega)]
  exact kk
theorem law_nz (hC : CallFix p m c cL_law 8 s args wsL_law RL) {x : Int32} (h0 : decode cL_law pc = .ok (.ifCond .eq 7, 3)) (h1 : decode cL_law (pc + 3) = .ok (.iconst 1, 1)) (h2 : decode cL_law (pc + 4) = .ok (.goto 4, 3)) (h3 : decode cL_law (pc + 7) = .ok (.iconst 0, 1))
    (kk : W p l e room_1 s m args below meth c H locs cells slots Q (F0 m (pc + 8) ls (.int (bI (nz x)) :: rest))) : W p l e room_1 s m args below meth c H locs cells slots Q (F0 m pc ls (.int x :: rest)) := by
  refine lv_if_eq (tgt := pc + 7) hC.1 hC.2.1 h0 (by omega) (fun h => ?_) (fun h => ?_)
  · refine lv_iconst (v := bI (nz x)) hC.1 hC.2.1 h3 (by rw [show nz x = false from decide_eq_false (fun z => z h)]; rfl) ?_
    exact kk
  · refine lv_iconst (v := bI (nz x)) hC.1 hC.2.1 h1 (by rw [show nz x = true from decide_eq_true h]; rfl) ?_
    refine lv_goto (tgt := pc + 8) hC.1 hC.2.1 h2 (by omega) ?_
    exact kk
end LAWR
theorem lg_self9 (x : Int64) : lg_cmp x x = 0 := by
  unfold lg_cmp
  rw [if_neg (fun h => absurd h (Int64.lt_irrefl)), if_pos rfl]
theorem wM_at {G : GX} {ad am : Nat → Nat} {S : XS} {M : MS} {z : va_E} (h : (wM G am M)[0]? = some (am 0, z)) : (wX G ad S ++ wM G am M)[(wX G ad S).length]? = some (am 0, z) := by
  rw [List.getElem?_append_right (Nat.le_refl _), Nat.sub_self]; exact h