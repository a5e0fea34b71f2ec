
/-! history, the reader -/
def rotP (f : Nat → Nat) : Nat → Nat := va_up (va_up (va_up (va_up f 0 (f 1)) 1 (f 2)) 2 (f 3)) 3 (f 0)
def recS (S : XS) (pm : Nat → Nat) (h : Nat) : XS := u_hcnt (u_perm (u_hs S (va_up (x_hs S) (pm h) (cpSt (x_hs S (pm h)) (x_now S)))) pm) (h + 1)
abbrev RD : Type := Nat × Nat × (Nat → Nat) × Bool × Bool × Nat × Nat
abbrev rd_mode (R : RD) : Nat := R.1
abbrev rd_cnt (R : RD) : Nat := R.2.1
abbrev rd_pl (R : RD) : Nat → Nat := R.2.2.1
abbrev rd_bound (R : RD) : Bool := R.2.2.2.1
abbrev rd_turned (R : RD) : Bool := R.2.2.2.2.1
abbrev rd_set (R : RD) : Nat := R.2.2.2.2.2.1
abbrev rd_last (R : RD) : Nat := R.2.2.2.2.2.2
def getRD (S : XS) : RD := (x_rmode S, x_rcnt S, x_rplaces S, x_rbound S, x_rturned S, x_rset S, x_rlast S)
def setRD (S : XS) (R : RD) : XS := u_rlast (u_rset (u_rturned (u_rmode (u_rbound (u_rcnt (u_rplaces S (rd_pl R)) (rd_cnt R)) (rd_bound R)) (rd_mode R)) (rd_turned R)) (rd_set R)) (rd_last R)
def rdAdd (R : RD) (v : Nat) : RD := (1, rd_cnt R + 1, va_up (rd_pl R) (rd_cnt R) v, rd_bound R, rd_turned R, rd_set R, rd_last R)
def rdPlace (R : RD) (c : Nat) : Option RD :=
  if c = 91 then some (2, rd_cnt R, rd_pl R, rd_bound R, false, 0, rd_last R)
  else if isLet c = true then some (rdAdd R (2 ^ (c - 97)))
  else if c = 46 then some (rdAdd R 134217727)
  else if c = 95 then some (rdAdd R 67108864) else none
def rdBegin (R : RD) (c : Nat) : Option RD := if c = 94 then some (1, rd_cnt R, rd_pl R, true, rd_turned R, rd_set R, rd_last R) else rdPlace R c
def rdLetter (R : RD) (c : Nat) : Option RD := if isLet c = true ∧ (rd_set R = 0 ∨ rd_last R < c) then some (4, rd_cnt R, rd_pl R, rd_bound R, rd_turned R, rd_set R ||| 2 ^ (c - 97), c) else none
def rdFirst (R : RD) (c : Nat) : Option RD := if c = 45 then some (3, rd_cnt R, rd_pl R, rd_bound R, true, rd_set R, rd_last R) else rdLetter R c
def cmpl (s : Nat) : Nat := (nI 67108863 &&& (nI s ^^^ (-1))).toBitVec.toNat
def rdRest (R : RD) (c : Nat) : Option RD := if c = 93 then some (rdAdd R (if rd_turned R = true then cmpl (rd_set R) else rd_set R)) else rdLetter R c
def rdStep (R : RD) (c : Nat) : Option RD := match rd_mode R with
  | 0 => rdBegin R c
  | 1 => rdPlace R c
  | 2 => rdFirst R c
  | 3 => rdLetter R c
  | _ => rdRest R c
theorem nI_or (a b : Nat) : nI a ||| nI b = nI (a ||| b) := by
  refine Int32.toBitVec_inj.mp ?_
  rw [Int32.toBitVec_or]
  show BitVec.ofNat 32 a ||| BitVec.ofNat 32 b = BitVec.ofNat 32 (a ||| b)
  exact BitVec.ofNat_or.symm
theorem shl_nI : ∀ k, k < 31 → nI 1 <<< (nI k &&& 31) = nI (2 ^ k) := by decide +kernel
theorem cmpl_e (s : Nat) : nI 67108863 &&& (nI s ^^^ (-1)) = nI (cmpl s) := by
  refine Int32.toBitVec_inj.mp ?_
  show (nI 67108863 &&& (nI s ^^^ (-1))).toBitVec = BitVec.ofNat 32 (nI 67108863 &&& (nI s ^^^ (-1))).toBitVec.toNat
  rw [BitVec.ofNat_toNat, BitVec.setWidth_eq]
theorem cmpl_lt (s : Nat) : cmpl s < 67108864 := by
  unfold cmpl
  rw [Int32.toBitVec_and, BitVec.toNat_and]
  exact Nat.lt_of_le_of_lt Nat.and_le_left (by decide +kernel)
def rdPost (f : RD → Nat → Option RD) (S : XS) (c : Nat) (r : Int32) (S' : XS) : Prop := (∃ R', f (getRD S) c = some R' ∧ r = nI 1 ∧ S' = setRD S R') ∨ (f (getRD S) c = none ∧ r = nI 0 ∧ S' = S)
theorem rdPost_nar {f : RD → Nat → Option RD} {S : XS} {c : Nat} {r : Int32} {S' : XS} (h : rdPost f S c r S') : narrow .boolean (.int r) = .int r := by
  rcases h with ⟨_, _, rfl, _⟩ | ⟨_, rfl, _⟩ <;> rfl
theorem rdPost_congr {f g : RD → Nat → Option RD} {S : XS} {c : Nat} {r : Int32} {S' : XS} (h : rdPost f S c r S') (e : g (getRD S) c = f (getRD S) c) : rdPost g S c r S' := by
  unfold rdPost
  rw [e]
  exact h

theorem rotP_lt {f : Nat → Nat} (h : ∀ i, i < 4 → f i < 4) : ∀ i, i < 4 → rotP f i < 4 := by
  intro i hi
  obtain rfl | rfl | rfl | rfl : i = 0 ∨ i = 1 ∨ i = 2 ∨ i = 3 := by omega
  · exact h 1 (by decide)
  · exact h 2 (by decide)
  · exact h 3 (by decide)
  · exact h 0 (by decide)

theorem isLet_ge {c : Nat} (h : isLet c = true) : 97 ≤ c ∧ c ≤ 122 := of_decide_eq_true h
