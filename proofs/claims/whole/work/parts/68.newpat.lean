/-! a new pattern at the pool's end -/
theorem poolW_app (G : GX) : ∀ (L M : List PatD), poolW G (L ++ M) = poolW G L ++ poolW G M
  | [], M => rfl
  | q :: t, M => by
    show _ :: _ :: _ :: poolW G (t ++ M) = _ :: _ :: _ :: (poolW G t ++ poolW G M)
    rw [poolW_app G t M]
theorem poolW_len (G : GX) : ∀ L : List PatD, (poolW G L).length = 3 * L.length
  | [] => rfl
  | q :: t => by
    show (poolW G t).length + 1 + 1 + 1 = 3 * (t.length + 1)
    rw [poolW_len G t]
    omega
def wXt (G : GX) (ad : Nat → Nat) (S : XS) (T : va_W) : va_W := (ad 0, .inr (5, [.ref (ad 1), .int (nI (st_len (x_now S))), .ref (ad 2), .int (nI (st_pcnt (x_now S))), .int (nI (st_most (x_now S)))])) :: (ad 1, .inl (G.2.1, 120, .inl (fun k9 => nI (st_text (x_now S) k9)))) :: (ad 2, .inl (G.2.2.2.2.2.1, 6, .inr (.inr (.inr (.inr (st_pats (x_now S))))))) :: (ad 3, .inr (5, [.ref (ad 4), .int (nI (st_len (x_snap S))), .ref (ad 5), .int (nI (st_pcnt (x_snap S))), .int (nI (st_most (x_snap S)))])) :: (ad 4, .inl (G.2.1, 120, .inl (fun k9 => nI (st_text (x_snap S) k9)))) :: (ad 5, .inl (G.2.2.2.2.2.1, 6, .inr (.inr (.inr (.inr (st_pats (x_snap S))))))) :: (ad 6, .inr (5, [.ref (ad 7), .int (nI (st_len (x_hs S 0))), .ref (ad 8), .int (nI (st_pcnt (x_hs S 0))), .int (nI (st_most (x_hs S 0)))])) :: (ad 7, .inl (G.2.1, 120, .inl (fun k9 => nI (st_text (x_hs S 0) k9)))) :: (ad 8, .inl (G.2.2.2.2.2.1, 6, .inr (.inr (.inr (.inr (st_pats (x_hs S 0))))))) :: (ad 9, .inr (5, [.ref (ad 10), .int (nI (st_len (x_hs S 1))), .ref (ad 11), .int (nI (st_pcnt (x_hs S 1))), .int (nI (st_most (x_hs S 1)))])) :: (ad 10, .inl (G.2.1, 120, .inl (fun k9 => nI (st_text (x_hs S 1) k9)))) :: (ad 11, .inl (G.2.2.2.2.2.1, 6, .inr (.inr (.inr (.inr (st_pats (x_hs S 1))))))) :: (ad 12, .inr (5, [.ref (ad 13), .int (nI (st_len (x_hs S 2))), .ref (ad 14), .int (nI (st_pcnt (x_hs S 2))), .int (nI (st_most (x_hs S 2)))])) :: (ad 13, .inl (G.2.1, 120, .inl (fun k9 => nI (st_text (x_hs S 2) k9)))) :: (ad 14, .inl (G.2.2.2.2.2.1, 6, .inr (.inr (.inr (.inr (st_pats (x_hs S 2))))))) :: (ad 15, .inr (5, [.ref (ad 16), .int (nI (st_len (x_hs S 3))), .ref (ad 17), .int (nI (st_pcnt (x_hs S 3))), .int (nI (st_most (x_hs S 3)))])) :: (ad 16, .inl (G.2.1, 120, .inl (fun k9 => nI (st_text (x_hs S 3) k9)))) :: (ad 17, .inl (G.2.2.2.2.2.1, 6, .inr (.inr (.inr (.inr (st_pats (x_hs S 3))))))) :: (ad 18, .inr (0, [.ref (ad 19), .int (nI (x_hcnt S))])) :: (ad 19, .inl (G.2.2.2.2.2.2, 4, .inr (.inr (.inr (.inr (fun k => some (ad (3 * (x_perm S k + 2))))))))) :: (ad 20, .inr (1, [.ref (ad 21), .int (nI (x_plen S))])) :: (ad 21, .inl (G.2.1, 60, .inl (fun k9 => nI (x_typed S k9)))) :: (ad 22, .inr (3, [.ref (ad 23), .int (nI (x_rcnt S)), .int (bI (x_rbound S)), .int (nI (x_rmode S)), .int (bI (x_rturned S)), .int (nI (x_rset S)), .int (nI (x_rlast S))])) :: (ad 23, .inl (G.2.2.1, 60, .inl (fun k9 => nI (x_rplaces S k9)))) :: (ad 24, .inr (4, [.ref (ad 25), .ref (ad 26), .ref (ad 27), .ref (ad 28), .ref (ad 29), .ref (ad 30), .ref (ad 31), .int (nI (x_listed S))])) :: (ad 25, .inl (G.2.2.2.1, 5, .inr (.inl (x_cols S)))) :: (ad 26, .inl (G.2.2.1, 61, .inl (fun k9 => nI (x_keys S k9)))) :: (ad 27, .inl (G.2.2.1, 121, .inl (x_slipsAt S))) :: (ad 28, .inl (G.2.2.1, 121, .inl (fun k9 => nI (x_begAt S k9)))) :: (ad 29, .inl (G.2.2.2.2.1, 121, .inl (fun k9 => bI (x_marked S k9)))) :: (ad 30, .inl (G.2.1, 120, .inl (fun k9 => nI (x_oldText S k9)))) :: (ad 31, .inl (G.2.2.1, 121, .inl (fun k9 => nI (x_ends S k9)))) :: (ad 32, .inr (6, [.ref (ad 33)])) :: (ad 33, .inl (G.2.2.1, 61, .inl (fun k9 => nI (x_ways S k9)))) :: (ad 34, .inr (7, [.ref (ad 0), .ref (ad 3), .int (bI (x_hasSnap S)), .ref (ad 18), .ref (ad 20), .ref (ad 22), .ref (ad 24), .ref (ad 32)])) :: T
theorem wXt_u {G : GX} {ad : Nat → Nat} {S : XS} {v : List PatD} : wX G ad (u_pool S v) = wXt G ad S (poolW G v) := rfl
theorem wXt_0 {G : GX} {ad : Nat → Nat} {S : XS} : wX G ad S = wXt G ad S (poolW G (x_pool S)) := rfl
theorem wXt_app {G : GX} {ad : Nat → Nat} {S : XS} {T U : va_W} : wXt G ad S T ++ U = wXt G ad S (T ++ U) := rfl
theorem wXt_set {G : GX} {ad : Nat → Nat} {S : XS} {T : va_W} {i : Nat} {c : Nat × va_E} : (wXt G ad S T).set (35 + i) c = wXt G ad S (T.set i c) := by
  rw [Nat.add_comm]
  rfl
theorem np_app {G : GX} {ad : Nat → Nat} {S : XS} {q : PatD} : wX G ad (u_pool S (x_pool S ++ [q])) = wX G ad S ++ poolW G [q] := by
  rw [wXt_u, poolW_app, wXt_0, wXt_app]
theorem np_get {S : XS} {q : PatD} : (x_pool (u_pool S (x_pool S ++ [q])))[(x_pool S).length]? = some q := by
  show (x_pool S ++ [q])[(x_pool S).length]? = some q
  rw [List.getElem?_append_right (Nat.le_refl _), Nat.sub_self]
  rfl
theorem np_set {G : GX} {ad : Nat → Nat} {S : XS} {q q' : PatD} {i : Nat} {c : Nat × va_E} (h : (poolW G [q]).set i c = poolW G [q']) : (wX G ad (u_pool S (x_pool S ++ [q]))).set (35 + (3 * (x_pool S).length + i)) c = wX G ad (u_pool S (x_pool S ++ [q'])) := by
  rw [wXt_u, wXt_set, poolW_app, List.set_append_right _ _ (by rw [poolW_len]; omega), poolW_len, show 3 * (x_pool S).length + i - 3 * (x_pool S).length = i by omega, h, ← poolW_app, ← wXt_u]
theorem np_set0 {G : GX} {ad : Nat → Nat} {S : XS} {q q' : PatD} {c : Nat × va_E} (h : (poolW G [q]).set 0 c = poolW G [q']) : (wX G ad (u_pool S (x_pool S ++ [q]))).set (35 + 3 * (x_pool S).length) c = wX G ad (u_pool S (x_pool S ++ [q'])) := np_set (i := 0) h
theorem ap_get {L M : va_W} {i : Nat} {x : Nat × va_E} (h : M[i]? = some x) : (L ++ M)[L.length + i]? = some x := by
  rw [List.getElem?_append_right (Nat.le_add_right _ _), Nat.add_sub_cancel_left]
  exact h
theorem ap_set {L M : va_W} {i : Nat} {x : Nat × va_E} : (L ++ M).set (L.length + i) x = L ++ M.set i x := by
  rw [List.set_append_right _ _ (Nat.le_add_right _ _), Nat.add_sub_cancel_left]
theorem ap_lt {L M : va_W} {i : Nat} {x : Nat × va_E} (h : L[i]? = some x) : (L ++ M)[i]? = some x := by
  rw [List.getElem?_append_left (List.getElem?_eq_some_iff.mp h).1]
  exact h
section NEWP
variable {p : Program} {l : Launch} {e : Env} {R : Room} {s : State} {m : MethodId} {args : Array Value} {below : List Frame} {meth : Method} {c : Code} {H : Heap} {locs : List Loc} {cells slots : Nat} {Q : State → Prop} {pc : Nat} {ls : Array Slot} {rest : List Value} {cc : ByteArray} {nL : Nat} {Ts : List Cond} {own : String} {G : GX} {A : Nat → Prop} {ad : Nat → Nat} {S : XS} {na npl npt : Nat} {F : Nat → Nat} {C9 : Nat} {B9 : Bool} {g9 : Nat → Int64}
theorem s_nplf (hC : CallFix p m c cc nL s args Ts own) (hK : KK G s) (hX : HH G A s.heap (wX G ad (u_pool S (x_pool S ++ [(na, npl, npt, F, C9, B9, g9)]))) H locs) {i v : Nat} (hi : i < 60) (hd : decode cc pc = .ok (.iastore, 1)) (kk : ∀ (H1 : Heap) (locs1 : List Loc), HH G A s.heap (wX G ad (u_pool S (x_pool S ++ [(na, npl, npt, va_up F i v, C9, B9, g9)]))) H1 locs1 → W p l e R s m args below meth c H1 locs1 cells slots Q (F0 m (pc + 1) ls rest)) : W p l e R s m args below meth c H locs cells slots Q (F0 m pc ls (.int (nI v) :: .int (nI i) :: .ref npl :: rest)) :=
  va_iast hC.1 hC.2.1 hK.1 hX.1 hX.2.1 hX.2.2 (35 + (3 * (x_pool S).length + 1)) 1 (f := fun k9 => nI (F k9)) (wX_ppl np_get) rfl (n_in hi (by decide)) hd (fun H1 locs1 h1 h2 h3 => by
    rw [nI_clamp (show i < 2 ^ 31 by omega), nA_up, np_set (q' := (na, npl, npt, va_up F i v, C9, B9, g9)) rfl] at h1 h2
    exact kk H1 locs1 ⟨h1, h2, h3⟩)
theorem s_nptf (hC : CallFix p m c cc nL s args Ts own) (hK : KK G s) (hX : HH G A s.heap (wX G ad (u_pool S (x_pool S ++ [(na, npl, npt, F, C9, B9, g9)]))) H locs) {i : Nat} {v : Int64} (hi : i < 27) (hd : decode cc pc = .ok (.lastore, 1)) (kk : ∀ (H1 : Heap) (locs1 : List Loc), HH G A s.heap (wX G ad (u_pool S (x_pool S ++ [(na, npl, npt, F, C9, B9, vp_updL g9 i v)]))) H1 locs1 → W p l e R s m args below meth c H1 locs1 cells slots Q (F0 m (pc + 1) ls rest)) : W p l e R s m args below meth c H locs cells slots Q (F0 m pc ls (.long v :: .int (nI i) :: .ref npt :: rest)) :=
  va_last hC.1 hC.2.1 hK.1 hX.1 hX.2.1 hX.2.2 (35 + (3 * (x_pool S).length + 2)) 2 (f := g9) (wX_ppt np_get) rfl (n_in hi (by decide)) hd (fun H1 locs1 h1 h2 h3 => by
    rw [nI_clamp (show i < 2 ^ 31 by omega), np_set (q' := (na, npl, npt, F, C9, B9, vp_updL g9 i v)) rfl] at h1 h2
    exact kk H1 locs1 ⟨h1, h2, h3⟩)
theorem p_np_cnt (hC : CallFix p m c cc nL s args Ts RX2) (hin : ∀ w ∈ wsX20, w ∈ Ts) (hK : KK G s) (hin2 : meth.name = "<init>") (hX : HH G A s.heap (wX G ad (u_pool S (x_pool S ++ [(na, npl, npt, F, C9, B9, g9)]))) H locs) {index : Nat} {v : Nat} (hlink : (Cond.fieldLink RX2 index "SlipSearch$Pattern" "placeCount" "I").before args s = true) (hd : decode cc pc = .ok (.putfield index, 3)) (kk : ∀ (H1 : Heap) (locs1 : List Loc), HH G A s.heap (wX G ad (u_pool S (x_pool S ++ [(na, npl, npt, F, v, B9, g9)]))) H1 locs1 → W p l e R s m args below meth c H1 locs1 cells slots Q (F0 m (pc + 3) ls rest)) : W p l e R s m args below meth c H locs cells slots Q (F0 m pc ls (.int (nI v) :: .ref na :: rest)) :=
  y_putF hC hK (C := RX2) (T := TX2) (N := 4) (ci := 2) hin tyX2 tyX2_ok nmX2 hX (35 + 3 * (x_pool S).length) (wX_pa np_get) rfl 1 (by decide) hlink (fun _ h => h) rfl hin2 rfl (ty := tyX2 1) (v := .int (nI v)) (tyX2_ok 1 (by decide)) rfl rfl (Nat.le_of_ble_eq_true rfl) hd (fun H1 locs1 h => kk H1 locs1 (by
    rw [← np_set0 (S := S) (q := (na, npl, npt, F, C9, B9, g9)) (q' := (na, npl, npt, F, v, B9, g9)) (c := (na, .inr (2, [.ref npl, .int (nI v), .int (bI B9), .ref npt]))) rfl]
    exact h))
theorem p_np_bnd (hC : CallFix p m c cc nL s args Ts RX2) (hin : ∀ w ∈ wsX20, w ∈ Ts) (hK : KK G s) (hin2 : meth.name = "<init>") (hX : HH G A s.heap (wX G ad (u_pool S (x_pool S ++ [(na, npl, npt, F, C9, B9, g9)]))) H locs) {index : Nat} {v : Bool} (hlink : (Cond.fieldLink RX2 index "SlipSearch$Pattern" "bound" "Z").before args s = true) (hd : decode cc pc = .ok (.putfield index, 3)) (kk : ∀ (H1 : Heap) (locs1 : List Loc), HH G A s.heap (wX G ad (u_pool S (x_pool S ++ [(na, npl, npt, F, C9, v, g9)]))) H1 locs1 → W p l e R s m args below meth c H1 locs1 cells slots Q (F0 m (pc + 3) ls rest)) : W p l e R s m args below meth c H locs cells slots Q (F0 m pc ls (.int (bI v) :: .ref na :: rest)) :=
  y_putF hC hK (C := RX2) (T := TX2) (N := 4) (ci := 2) hin tyX2 tyX2_ok nmX2 hX (35 + 3 * (x_pool S).length) (wX_pa np_get) rfl 2 (by decide) hlink (fun _ h => h) rfl hin2 rfl (ty := tyX2 2) (v := .int (bI v)) (tyX2_ok 2 (by decide)) (by cases v <;> rfl) (by cases v <;> rfl) (Nat.le_of_ble_eq_true rfl) hd (fun H1 locs1 h => kk H1 locs1 (by
    rw [← np_set0 (S := S) (q := (na, npl, npt, F, C9, B9, g9)) (q' := (na, npl, npt, F, C9, v, g9)) (c := (na, .inr (2, [.ref npl, .int (nI C9), .int (bI v), .ref npt]))) rfl]
    exact h))
end NEWP
theorem lbit_shlN (x : Int64) {k i : Nat} (hk : k < 64) (hi : i < 64) : lbit (x <<< ((nI k).toInt64 &&& 63)) i = (decide (k ≤ i) && lbit x (i - k)) := by
  unfold lbit
  have h : ∀ k, k < 64 → ((((nI k).toInt64 &&& 63).toBitVec.smod 64)).toNat = k := by decide +kernel
  rw [Int64.toBitVec_shiftLeft, BitVec.shiftLeft_eq', BitVec.getLsbD_shiftLeft, h k hk]
  simp only [hi, decide_true, Bool.true_and]
  congr 1
  by_cases hh : i < k
  · rw [decide_eq_true hh, decide_eq_false (by omega)]; rfl
  · rw [decide_eq_false hh, decide_eq_true (by omega)]; rfl
theorem ptf_step {x : Int64} {P : Nat → Nat} {i k j : Nat} (hi : i < 60) (hj : j < 60) (h : lbit x j = (decide (j < i) && (P j).testBit k)) : lbit (x ||| (lN (P i / 2 ^ k % 2) <<< ((nI i).toInt64 &&& 63))) j = (decide (j < i + 1) && (P j).testBit k) := by
  rw [lbit_or, h, lbit_shlN _ (by omega) (by omega), lbit_ofNat (by omega)]
  by_cases h1 : j < i
  · rw [decide_eq_true h1, decide_eq_true (show j < i + 1 by omega), decide_eq_false (show ¬ i ≤ j by omega), Bool.false_and, Bool.or_false]
  · rw [decide_eq_false h1, Bool.false_and, Bool.false_or]
    by_cases h2 : j = i
    · subst h2
      rw [decide_eq_true (Nat.le_refl _), decide_eq_true (Nat.lt_succ_self _), Bool.true_and, Bool.true_and, Nat.sub_self, Nat.testBit_eq_decide_div_mod_eq, Nat.testBit_eq_decide_div_mod_eq, Nat.pow_zero, Nat.div_one, Nat.mod_mod]
    · rw [decide_eq_false (show ¬ j < i + 1 by omega), Bool.false_and]
      obtain ⟨d, hd⟩ : ∃ d, j - i = d + 1 := ⟨j - i - 1, by omega⟩
      rw [hd, Nat.testBit_succ, Nat.div_eq_of_lt (Nat.mod_lt _ (by decide)), Nat.zero_testBit, Bool.and_false]
