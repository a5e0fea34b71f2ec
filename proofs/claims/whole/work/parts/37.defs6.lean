
/-! the class as a whole -/
def rcP (S : XS) : Nat → Nat := if x_hcnt S < 4 then x_perm S else rotP (x_perm S)
def rcH (S : XS) : Nat := if x_hcnt S < 4 then x_hcnt S else 3
def recF (S : XS) : XS := recS S (rcP S) (rcH S)
theorem rec_det {S : XS} {pm : Nat → Nat} {h : Nat} (H : (x_hcnt S < 4 ∧ h = x_hcnt S ∧ pm = x_perm S) ∨ (x_hcnt S = 4 ∧ h = 3 ∧ pm = rotP (x_perm S))) : pm = rcP S ∧ h = rcH S := by
  unfold rcP rcH
  rcases H with ⟨h1, h2, h3⟩ | ⟨h1, h2, h3⟩
  · rw [if_pos h1, if_pos h1]; exact ⟨h3, h2⟩
  · rw [if_neg (by omega), if_neg (by omega)]; exact ⟨h3, h2⟩
def okSt (S : XS) (d : StD) : Prop := okT (st_text d) (st_len d) ∧ st_len d ≤ 120 ∧ st_pcnt d ≤ 6 ∧ st_most d ≤ 4 ∧ inPool S (st_pats d) ∧ ∀ j, j < st_pcnt d → ∃ (q : PatD) (k : Nat), (x_pool S)[k]? = some q ∧ st_pats d j = some (pd_a q)
def okQ (q : PatD) : Prop := 1 ≤ pd_cnt q ∧ pd_cnt q ≤ 60 ∧ (∀ i, i < pd_cnt q → pd_plf q i < 134217728) ∧ ∀ c, c < 27 → ∀ i, i < 60 → lbit (pd_ptf q c) i = (decide (i < pd_cnt q) && (pd_plf q i).testBit c)
def okX (S : XS) : Prop := okSt S (x_now S) ∧ (x_hasSnap S = true → okSt S (x_snap S)) ∧ (∀ k, k < x_hcnt S → okSt S (x_hs S (x_perm S k))) ∧ (∀ i, i < 4 → x_perm S i < 4) ∧ (∀ i j, i < 4 → j < 4 → x_perm S i = x_perm S j → i = j) ∧ x_hcnt S ≤ 4 ∧ x_plen S ≤ 60 ∧ (∀ i, x_typed S i < 65536) ∧ x_rset S < 67108864 ∧ x_rlast S < 65536 ∧ ∀ (q : PatD) (k : Nat), (x_pool S)[k]? = some q → okQ q

def hasP (S : XS) (p0 : Int32) (q : PatD) : Prop := ∃ j, p0 = nI j ∧ j < st_pcnt (x_now S) ∧ st_pats (x_now S) j = some (pd_a q) ∧ ∃ k : Nat, (x_pool S)[k]? = some q
def noP (S : XS) (p0 : Int32) : Prop := p0 < 0 ∨ nI (st_pcnt (x_now S)) ≤ p0
/-- only what the searches write on has changed -/
def scrX (S S' : XS) : Prop := x_now S' = x_now S ∧ x_snap S' = x_snap S ∧ x_hs S' = x_hs S ∧ x_hasSnap S' = x_hasSnap S ∧ x_perm S' = x_perm S ∧ x_hcnt S' = x_hcnt S ∧ x_typed S' = x_typed S ∧ x_plen S' = x_plen S ∧ x_rset S' = x_rset S ∧ x_rlast S' = x_rlast S ∧ x_pool S' = x_pool S
theorem scrX_0 (S : XS) : scrX S S := ⟨rfl, rfl, rfl, rfl, rfl, rfl, rfl, rfl, rfl, rfl, rfl⟩

def sgn95 (c : Nat) : Nat := if c = 95 then 32 else c
def wrT (T pd : Nat → Nat) (L : Nat) : Nat → Nat → Nat
  | 0 => T
  | k + 1 => va_up (wrT T pd L k) (L + k) (sgn95 (pd k))
theorem sgn95_lt {c : Nat} (h : c < 65536) : sgn95 c < 65536 := by
  unfold sgn95
  split
  · decide
  · exact h

def dX (q : PatD) (S : XS) (e : Nat) : Nat := dcol (tkX (pd_ptf q) (st_text (x_now S))) (mayB (pd_bnd q) (st_text (x_now S))) e (pd_cnt q)
def bX (q : PatD) (S : XS) (e : Nat) : Nat := bcol (tkX (pd_ptf q) (st_text (x_now S))) (mayB (pd_bnd q) (st_text (x_now S))) e (pd_cnt q)
def alX (q : PatD) (S : XS) : Nat → Bool := alE (selX q S) (bX q S)
def selA (q : PatD) (S : XS) (a : Bool) : Nat → Bool := if a = true then alX q S else selX q S
theorem selA_t {q : PatD} {S : XS} {a : Bool} (h : a = true) : selA q S a = alX q S := if_pos h
theorem selA_f {q : PatD} {S : XS} {a : Bool} (h : a = false) : selA q S a = selX q S := if_neg (by rw [h]; decide)
def gX (q : PatD) (S : XS) (ef : Nat → Nat) (r : Nat) : Nat := min (dX q S (ef r)) 4
theorem gX_4 (q : PatD) (S : XS) (ef : Nat → Nat) (r : Nat) : gX q S ef r ≤ 4 := Nat.min_le_right _ _
theorem selX_d {q : PatD} {S : XS} {e : Nat} (h : selX q S e = true) : dX q S e ≤ st_most (x_now S) := of_decide_eq_true h
theorem sf_sel {q : PatD} {S : XS} {sf : Nat → Int32} (hsf : ∀ e, e ≤ st_len (x_now S) → sf e = slipV (dX q S e) (st_most (x_now S))) {e : Nat} (he : e ≤ st_len (x_now S)) (hs : selX q S e = true) : sf e = nI (dX q S e) := by
  rw [hsf e he, slipV_t (selX_d hs)]
theorem ends_g {q : PatD} {S : XS} {sf : Nat → Int32} {ef : Nat → Nat} (hm : st_most (x_now S) ≤ 4) (hL : LR ef (selX q S) (st_len (x_now S) + 1)) (hsf : ∀ e, e ≤ st_len (x_now S) → sf e = slipV (dX q S e) (st_most (x_now S))) {r : Nat} (hr : r < cS (selX q S) (st_len (x_now S) + 1)) : sf (ef r) = nI (gX q S ef r) := by
  obtain ⟨h1, h2, h3⟩ := LR_at hL hr
  have h4 := selX_d h2
  rw [sf_sel hsf (by omega) h2]
  unfold gX
  rw [Nat.min_eq_left (by omega)]
def endV (q : PatD) (S : XS) (w e : Nat) : Int32 := if w = 0 then nI e else if w = 1 then nI (dX q S e) else nI (bX q S e)
theorem endV_eq {q : PatD} {S : XS} {w e bv : Nat} {sv : Int32} (h1 : w = 1 → sv = nI (dX q S e)) (h2 : w ≠ 0 → w ≠ 1 → bv = bX q S e) : (if w = 0 then nI e else if w = 1 then sv else nI bv) = endV q S w e := by
  unfold endV
  by_cases h0 : w = 0
  · rw [if_pos h0, if_pos h0]
  · rw [if_neg h0, if_neg h0]
    by_cases h3 : w = 1
    · rw [if_pos h3, if_pos h3, h1 h3]
    · rw [if_neg h3, if_neg h3, h2 h0 h3]

theorem i2d_nzb : ∀ k, k < 122 → 0 < k → (FP.i2d (nI k)).toNat % 2 ^ 63 ≠ 0 := by decide +kernel
theorem i2d_nz {k : Nat} (h : k < 122) (h0 : 0 < k) : ¬ FP.Core.DZero (FP.i2d (nI k)) := fun z => i2d_nzb k h h0 ((FP.Core.zero_bits2 _).mp z)

/-- the pattern that stands at place j, or the first of the pool -/
def patOf (S : XS) (j : Nat) : PatD := ((x_pool S).find? (fun q => some (pd_a q) == st_pats (x_now S) j)).getD (0, 0, 0, fun _ => 0, 0, false, fun _ => 0)
def nEnds (S : XS) (q : PatD) : Nat := cS (selX q S) (st_len (x_now S) + 1)
def noDup (S : XS) : Prop := ∀ (i j : Nat) (a b : PatD), (x_pool S)[i]? = some a → (x_pool S)[j]? = some b → pd_a a = pd_a b → a = b
theorem patOf_eq {S : XS} (hd : noDup S) {q : PatD} {j k : Nat} (hk : (x_pool S)[k]? = some q) (h : st_pats (x_now S) j = some (pd_a q)) : patOf S j = q := by
  unfold patOf
  cases hf : (x_pool S).find? (fun q => some (pd_a q) == st_pats (x_now S) j) with
  | none =>
    have := List.find?_eq_none.mp hf q (List.mem_of_getElem? hk)
    rw [h] at this
    simp at this
  | some w =>
    have h1 := List.find?_some hf
    have h2 := List.mem_of_find?_eq_some hf
    obtain ⟨i, hi⟩ := List.mem_iff_getElem?.mp h2
    rw [h] at h1
    have h3 : pd_a w = pd_a q := by simpa using h1
    exact hd i k w q hi hk h3
def sumN (g : Nat → Nat) : Nat → Nat
  | 0 => 0
  | k + 1 => sumN g k + g k
def allE (S : XS) (j : Nat) : Nat := if j < st_pcnt (x_now S) then nEnds S (patOf S j) else 0
def anyE (S : XS) : Nat → Nat → Bool
  | 0, _ => false
  | k + 1, e => anyE S k e || (decide (k < st_pcnt (x_now S)) && decide (e ≤ st_len (x_now S)) && selX (patOf S k) S e)

theorem nI_inj9 {a b : Nat} (ha : a < 2 ^ 31) (hb : b < 2 ^ 31) (h : nI a = nI b) : a = b := by
  have h2 := congrArg Int32.toInt h
  rw [nI_toInt ha, nI_toInt hb] at h2
  omega
theorem noP_nat {i c : Nat} (hi : i < 2 ^ 31) (hc : c < 2 ^ 31) (h : nI i < 0 ∨ nI c ≤ nI i) : ¬ i < c := by
  intro z
  rcases h with h | h
  · rw [Int32.lt_iff_toInt_lt, nI_toInt hi] at h
    have : (0 : Int32).toInt = 0 := by decide
    omega
  · rw [Int32.le_iff_toInt_le, nI_toInt hi, nI_toInt hc] at h
    omega

theorem any_f {S : XS} {i e : Nat} (h : ¬ i < st_pcnt (x_now S)) : anyE S i e = anyE S (i + 1) e := by
  show _ = (anyE S i e || _)
  rw [decide_eq_false h, Bool.false_and, Bool.false_and, Bool.or_false]
theorem any_t {S : XS} {q : PatD} {i e : Nat} {mk : Nat → Bool} {ef : Nat → Nat} (hmk : ∀ e, e ≤ 120 → mk e = anyE S i e) (hL : LR ef (selX q S) (st_len (x_now S) + 1)) (hj : i < st_pcnt (x_now S)) (hp : patOf S i = q) (hn : st_len (x_now S) ≤ 120) (he : e ≤ 120) : (mk e || decide (∃ r, r < cS (selX q S) (st_len (x_now S) + 1) ∧ ef r = e)) = anyE S (i + 1) e := by
  show _ = (anyE S i e || _)
  rw [hmk e he, decide_eq_true hj, Bool.true_and, hp]
  congr 1
  by_cases h : e ≤ st_len (x_now S) ∧ selX q S e = true
  · rw [decide_eq_true h.1, h.2, decide_eq_true ⟨cS (selX q S) e, cS_lt (by omega) h.2, hL e (by omega) h.2⟩]
    rfl
  · rw [decide_eq_false (fun z => ?_)]
    · by_cases h1 : e ≤ st_len (x_now S)
      · rw [Bool.eq_false_iff.mpr (fun z => h ⟨h1, z⟩), Bool.and_false]
      · rw [decide_eq_false h1, Bool.false_and]
    · obtain ⟨r, hr, rfl⟩ := z
      obtain ⟨h1, h2, h3⟩ := LR_at hL hr
      exact h ⟨by omega, h2⟩

theorem alS_skipE {isE : Nat → Bool} {bg : Nat → Nat} {e : Nat} : ∀ {d : Nat}, (∀ k, e ≤ k → k < e + d → alE isE bg k = false) → alS isE bg (e + d) = alS isE bg e
  | 0, _ => rfl
  | d + 1, h => (alS_f (k := e + d) (of_decide_eq_false (h (e + d) (by omega) (by omega)))).trans (alS_skipE (fun k h2 h3 => h k h2 (by omega)))
theorem al_parts {isE : Nat → Bool} {bg f : Nat → Nat} {n : Nat} (hL : LR f (alE isE bg) n) (hb : ∀ e, e < n → bg e ≤ e) : partsOK bg f (cS (alE isE bg) n) (n - 1) := by
  intro r hr
  obtain ⟨h1, h2, h3⟩ := LR_at hL hr
  refine ⟨hb _ h1, by omega, fun h0 => ?_⟩
  obtain ⟨k1, k2, k3⟩ := LR_at hL (show r - 1 < cS (alE isE bg) n by omega)
  have h4 : f (r - 1) < f r := by
    refine Decidable.byContradiction (fun z => ?_)
    have := cS_mono (alE isE bg) (show f r ≤ f (r - 1) by omega)
    omega
  have h5 : cS (alE isE bg) (f (r - 1) + 1) = r := by rw [cS_t k2]; omega
  have h6 := cS_same (sel := alE isE bg) (e := f (r - 1) + 1) (d := f r - (f (r - 1) + 1)) (by rw [show f (r - 1) + 1 + (f r - (f (r - 1) + 1)) = f r by omega]; omega)
  have h7 := alS_skipE (isE := isE) (bg := bg) (e := f (r - 1) + 1) (d := f r - (f (r - 1) + 1)) h6
  rw [show f (r - 1) + 1 + (f r - (f (r - 1) + 1)) = f r by omega] at h7
  have h8 := of_decide_eq_true k2
  rw [alS_t h8.1 h8.2] at h7
  have h9 := (of_decide_eq_true h2).2
  rw [h7] at h9
  exact h9
theorem bX_le {q : PatD} {S : XS} {e : Nat} (h : e ≤ 127) : bX q S e ≤ e := bcol_le h
theorem partsOK_congr {bg bg' f : Nat → Nat} {n L : Nat} (h : partsOK bg f n L) (e : ∀ k, k ≤ L → bg' k = bg k) : partsOK bg' f n L := by
  intro r hr
  obtain ⟨h1, h2, h3⟩ := h r hr
  rw [e _ h2]
  exact ⟨h1, h2, h3⟩
