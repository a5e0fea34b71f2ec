
/-! the class as a whole -/
def rcP (S : XS) : Nat → Nat := if x_hcnt S < 4 then x_perm S else rotP (x_perm S)
def rcH (S : XS) : Nat := if x_hcnt S < 4 then x_hcnt S else 3
def recF (S : XS) : XS := recS S (rcP S) (rcH S)
theorem rec_det {S : XS} {pm : Nat → Nat} {h : Nat} (H : (x_hcnt S < 4 ∧ h = x_hcnt S ∧ pm = x_perm S) ∨ (x_hcnt S = 4 ∧ h = 3 ∧ pm = rotP (x_perm S))) : pm = rcP S ∧ h = rcH S := by
  unfold rcP rcH
  rcases H with ⟨h1, h2, h3⟩ | ⟨h1, h2, h3⟩
  · rw [if_pos h1, if_pos h1]; exact ⟨h3, h2⟩
  · rw [if_neg (by omega), if_neg (by omega)]; exact ⟨h3, h2⟩
def okSt (S : XS) (d : StD) : Prop := okT (st_text d) (st_len d) ∧ st_len d ≤ 120 ∧ st_pcnt d ≤ 6 ∧ st_most d ≤ 4 ∧ inPool S (st_pats d) ∧ ∀ j, j < st_pcnt d → ∃ (q : PatD) (k : Nat), (x_pool S)[k]? = some q ∧ st_pats d j = some (pd_a q)
def okQ (q : PatD) : Prop := 1 ≤ pd_cnt q ∧ pd_cnt q ≤ 60 ∧ (∀ i, i < pd_cnt q → pd_plf q i < 134217728) ∧ ∀ c, c < 27 → ∀ i, i < 60 → lbit (pd_ptf q c) i = (decide (i < pd_cnt q) && (pd_plf q i).testBit c)
def okX (S : XS) : Prop := okSt S (x_now S) ∧ (x_hasSnap S = true → okSt S (x_snap S)) ∧ (∀ k, k < x_hcnt S → okSt S (x_hs S (x_perm S k))) ∧ (∀ i, i < 4 → x_perm S i < 4) ∧ (∀ i j, i < 4 → j < 4 → x_perm S i = x_perm S j → i = j) ∧ x_hcnt S ≤ 4 ∧ x_plen S ≤ 60 ∧ (∀ i, x_typed S i < 65536) ∧ x_rset S < 67108864 ∧ x_rlast S < 65536 ∧ ∀ (q : PatD) (k : Nat), (x_pool S)[k]? = some q → okQ q

def hasP (S : XS) (p0 : Int32) (q : PatD) : Prop := ∃ j, p0 = nI j ∧ j < st_pcnt (x_now S) ∧ st_pats (x_now S) j = some (pd_a q) ∧ ∃ k : Nat, (x_pool S)[k]? = some q
def noP (S : XS) (p0 : Int32) : Prop := p0 < 0 ∨ nI (st_pcnt (x_now S)) ≤ p0
/-- only what the searches write on has changed -/
def scrX (S S' : XS) : Prop := ∃ a b c d e f g h i, S' = u_ways (u_listed (u_ends (u_oldText (u_marked (u_begAt (u_slipsAt (u_keys (u_cols S a) b) c) d) e) f) g) h) i
theorem scrX_0 (S : XS) : scrX S S := ⟨_, _, _, _, _, _, _, _, _, rfl⟩

def sgn95 (c : Nat) : Nat := if c = 95 then 32 else c
def wrT (T pd : Nat → Nat) (L : Nat) : Nat → Nat → Nat
  | 0 => T
  | k + 1 => va_up (wrT T pd L k) (L + k) (sgn95 (pd k))
theorem sgn95_lt {c : Nat} (h : c < 65536) : sgn95 c < 65536 := by
  unfold sgn95
  split
  · decide
  · exact h
