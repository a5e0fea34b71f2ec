
/-! the reference reads a pattern -/
def hereB (t : Nat → Nat) (n k a b : Nat) : Bool := decide (k < n ∧ a ≤ t k ∧ t k ≤ b)
theorem here_t {t : Nat → Nat} {n k c : Nat} (h : hereB t n k c c = true) : k < n ∧ t k = c := by
  have := of_decide_eq_true h
  exact ⟨this.1, by omega⟩
theorem here_f {t : Nat → Nat} {n k c : Nat} (h : hereB t n k c c = false) (hk : k < n) : t k ≠ c := fun z => of_decide_eq_false h ⟨hk, by omega, by omega⟩
def rdOK (t : Nat → Nat) (R0 : RD) (n sp rp : Nat) (rt : Nat → Nat) (bd : Bool) : Prop := ∃ Q, sp ≤ n ∧ rdRun t R0 sp = some Q ∧ rd_mode Q = 1 ∧ 0 < rd_cnt Q ∧ rp = rd_cnt Q ∧ rp ≤ sp ∧ (∀ i, i < rp → rt i = rd_pl Q i) ∧ rd_bound Q = bd
def rdBad (t : Nat → Nat) (R0 : RD) (n sp : Nat) : Prop := ∃ Q, rdRun t R0 sp = some Q ∧ ((sp < n ∧ rdStep Q (t sp) = none) ∨ (sp = n ∧ ¬ (rd_mode Q = 1 ∧ 0 < rd_cnt Q)))
theorem rdBad_le {t : Nat → Nat} {R0 : RD} {n sp : Nat} (h : rdBad t R0 n sp) : sp ≤ n := by
  obtain ⟨Q, h1, h2⟩ := h
  omega
theorem rdOK_le {t : Nat → Nat} {R0 : RD} {n sp rp : Nat} {rt : Nat → Nat} {bd : Bool} (h : rdOK t R0 n sp rp rt bd) : sp ≤ n ∧ rp ≤ sp := by
  obtain ⟨Q, h1, h2, h3, h4, h5, h6, h7⟩ := h
  exact ⟨h1, h6⟩
theorem rdOK_n {t : Nat → Nat} {R0 : RD} {n sp rp : Nat} {rt : Nat → Nat} {bd : Bool} (h : rdOK t R0 n sp rp rt bd) (hs : ¬ sp < n) : rdOK t R0 n n rp rt bd := by
  have h1 := (rdOK_le h).1
  obtain rfl : sp = n := by omega
  exact h
theorem run_s {t : Nat → Nat} {R0 R R' : RD} {k : Nat} (h : rdRun t R0 k = some R) (h2 : rdStep R (t k) = some R') : rdRun t R0 (k + 1) = some R' := by
  show (rdRun t R0 k).bind _ = _
  rw [h]
  exact h2
theorem step1 {R : RD} {c : Nat} (h : rd_mode R = 1) : rdStep R c = rdPlace R c := by unfold rdStep; rw [h]; rfl
theorem step2 {R : RD} {c : Nat} (h : rd_mode R = 2) : rdStep R c = rdFirst R c := by unfold rdStep; rw [h]; rfl
theorem step3 {R : RD} {c : Nat} (h : rd_mode R = 3) : rdStep R c = rdLetter R c := by unfold rdStep; rw [h]; rfl
theorem step4 {R : RD} {c : Nat} (h : rd_mode R = 4) : rdStep R c = rdRest R c := by unfold rdStep; rw [h]; rfl
theorem step0 {R : RD} {c : Nat} (h : rd_mode R = 0) : rdStep R c = rdBegin R c := by unfold rdStep; rw [h]; rfl
/-- what readsPlace begins with -/
def plI (t : Nat → Nat) (R0 R : RD) (n sp rp : Nat) (rt : Nat → Nat) : Prop := rdRun t R0 sp = some R ∧ sp ≤ n ∧ (sp < n → rdStep R (t sp) = rdPlace R (t sp)) ∧ (sp = n → ¬ (rd_mode R = 1 ∧ 0 < rd_cnt R)) ∧ rp = rd_cnt R ∧ rp ≤ sp ∧ ∀ i, i < rp → rt i = rd_pl R i
theorem plI_of {t : Nat → Nat} {R0 : RD} {n sp rp : Nat} {rt : Nat → Nat} {bd : Bool} (h : rdOK t R0 n sp rp rt bd) (hs : sp < n) : ∃ R, plI t R0 R n sp rp rt ∧ rd_bound R = bd := by
  obtain ⟨Q, h1, h2, h3, h4, h5, h6, h7, h8⟩ := h
  exact ⟨Q, ⟨h2, h1, fun _ => step1 h3, fun z => absurd z (by omega), h5, h6, h7⟩, h8⟩
theorem plI_0 {t : Nat → Nat} {R0 : RD} {n : Nat} (hm : rd_mode R0 = 0) (hc : rd_cnt R0 = 0) (hb : rd_bound R0 = false) (rt : Nat → Nat) : ∃ R, plI t R0 R n (0 + bN (hereB t n 0 94 94)) 0 rt ∧ rd_bound R = hereB t n 0 94 94 := by
  cases h : hereB t n 0 94 94 with
  | true =>
    obtain ⟨h1, h2⟩ := here_t h
    refine ⟨(1, rd_cnt R0, rd_pl R0, true, rd_turned R0, rd_set R0, rd_last R0), ⟨run_s (R := R0) rfl ?_, h1, fun _ => step1 rfl, fun _ z => ?_, hc.symm, Nat.zero_le _, fun i hi => absurd hi (Nat.not_lt_zero _)⟩, rfl⟩
    · rw [step0 hm, h2]; rfl
    · have : 0 < rd_cnt R0 := z.2
      omega
  | false =>
    refine ⟨R0, ⟨rfl, Nat.zero_le _, fun hn => ?_, fun _ z => ?_, hc.symm, Nat.zero_le _, fun i hi => absurd hi (Nat.not_lt_zero _)⟩, hb⟩
    · rw [step0 hm]
      unfold rdBegin
      exact if_neg (here_f h hn)
    · have := z.1
      omega
theorem plI_add {t : Nat → Nat} {R0 R : RD} {n sp rp v : Nat} {rt : Nat → Nat} (h : plI t R0 R n sp rp rt) (hs : sp < n) (he : rdPlace R (t sp) = some (rdAdd R v)) : rdOK t R0 n (sp + 1) (rp + 1) (va_up rt rp v) (rd_bound R) := by
  obtain ⟨h1, h2, h3, h4, h5, h6, h7⟩ := h
  refine ⟨rdAdd R v, hs, run_s h1 ((h3 hs).trans he), rfl, Nat.succ_pos _, by rw [h5]; rfl, by omega, fun i hi => ?_, rfl⟩
  subst h5
  show va_up rt (rd_cnt R) v i = va_up (rd_pl R) (rd_cnt R) v i
  by_cases hh : i = rd_cnt R
  · subst hh; rw [va_up_self, va_up_self]
  · rw [va_up_ne _ _ hh, va_up_ne _ _ hh]; exact h7 i (by omega)
theorem isLet_here {t : Nat → Nat} {n k : Nat} (h : hereB t n k 97 122 = true) : k < n ∧ isLet (t k) = true := by
  have := of_decide_eq_true h
  exact ⟨this.1, decide_eq_true this.2⟩
theorem isLet_here_f {t : Nat → Nat} {n k : Nat} (h : hereB t n k 97 122 = false) (hk : k < n) : isLet (t k) = false := decide_eq_false (fun z => of_decide_eq_false h ⟨hk, z⟩)
theorem plI_let {t : Nat → Nat} {R0 R : RD} {n sp rp : Nat} {rt : Nat → Nat} (h : plI t R0 R n sp rp rt) (hl : hereB t n sp 97 122 = true) : rdOK t R0 n (sp + 1) (rp + 1) (va_up rt rp (2 ^ (t sp - 97))) (rd_bound R) := by
  obtain ⟨h1, h2⟩ := isLet_here hl
  have h3 := isLet_ge h2
  refine plI_add h h1 ?_
  unfold rdPlace
  rw [if_neg (by omega), if_pos h2]
theorem plI_dot {t : Nat → Nat} {R0 R : RD} {n sp rp : Nat} {rt : Nat → Nat} (h : plI t R0 R n sp rp rt) (hl : hereB t n sp 46 46 = true) : rdOK t R0 n (sp + 1) (rp + 1) (va_up rt rp 134217727) (rd_bound R) := by
  obtain ⟨h1, h2⟩ := here_t hl
  refine plI_add h h1 ?_
  unfold rdPlace
  rw [h2, if_neg (by decide), if_neg (by decide), if_pos rfl]
theorem plI_us {t : Nat → Nat} {R0 R : RD} {n sp rp : Nat} {rt : Nat → Nat} (h : plI t R0 R n sp rp rt) (hl : hereB t n sp 95 95 = true) : rdOK t R0 n (sp + 1) (rp + 1) (va_up rt rp 67108864) (rd_bound R) := by
  obtain ⟨h1, h2⟩ := here_t hl
  refine plI_add h h1 ?_
  unfold rdPlace
  rw [h2, if_neg (by decide), if_neg (by decide), if_neg (by decide), if_pos rfl]
theorem plI_bad {t : Nat → Nat} {R0 R : RD} {n sp rp : Nat} {rt : Nat → Nat} (h : plI t R0 R n sp rp rt) (ha : hereB t n sp 91 91 = false) (hl : hereB t n sp 97 122 = false) (hd : hereB t n sp 46 46 = false) (hu : hereB t n sp 95 95 = false) : rdBad t R0 n sp := by
  obtain ⟨h1, h2, h3, h4, h5, h6, h7⟩ := h
  refine ⟨R, h1, ?_⟩
  by_cases hs : sp < n
  · refine Or.inl ⟨hs, (h3 hs).trans ?_⟩
    unfold rdPlace
    rw [if_neg (here_f ha hs), if_neg (by rw [isLet_here_f hl hs]; decide), if_neg (here_f hd hs), if_neg (here_f hu hs)]
  · exact Or.inr ⟨by omega, h4 (by omega)⟩
/-- what readsSet begins with -/
def seB (t : Nat → Nat) (R0 R : RD) (n sp rp : Nat) (rt : Nat → Nat) : Prop := rdRun t R0 sp = some R ∧ sp ≤ n ∧ rd_mode R = 2 ∧ rd_set R = 0 ∧ rd_turned R = false ∧ rp = rd_cnt R ∧ rp < sp ∧ ∀ i, i < rp → rt i = rd_pl R i
theorem plI_set {t : Nat → Nat} {R0 R : RD} {n sp rp : Nat} {rt : Nat → Nat} (h : plI t R0 R n sp rp rt) (ha : hereB t n sp 91 91 = true) : ∃ Q, seB t R0 Q n (sp + 1) rp rt ∧ rd_bound Q = rd_bound R := by
  obtain ⟨h1, h2, h3, h4, h5, h6, h7⟩ := h
  obtain ⟨hs, hc⟩ := here_t ha
  refine ⟨(2, rd_cnt R, rd_pl R, rd_bound R, false, 0, rd_last R), ⟨run_s h1 ?_, hs, rfl, rfl, rfl, h5, by omega, h7⟩, rfl⟩
  rw [h3 hs, hc]
  rfl
def setI (t : Nat → Nat) (R0 R : RD) (n : Nat) (h : Bool) (sp st le : Nat) : Prop := ∃ Q, rdRun t R0 sp = some Q ∧ sp ≤ n ∧ rd_cnt Q = rd_cnt R ∧ rd_pl Q = rd_pl R ∧ rd_bound Q = rd_bound R ∧ rd_turned Q = h ∧ rd_set Q = st ∧ st < 67108864 ∧ rd_cnt R < sp ∧ ((st = 0 ∧ le = 97 ∧ ((rd_mode Q = 2 ∧ (sp < n → t sp ≠ 45)) ∨ rd_mode Q = 3)) ∨ (0 < st ∧ le = rd_last Q + 1 ∧ rd_mode Q = 4 ∧ 97 ≤ rd_last Q ∧ rd_last Q ≤ 122))
theorem setI_le {t : Nat → Nat} {R0 R : RD} {n sp st le : Nat} {h : Bool} (H : setI t R0 R n h sp st le) : sp ≤ n ∧ st < 67108864 ∧ 97 ≤ le ∧ le ≤ 123 ∧ rd_cnt R < sp := by
  obtain ⟨Q, h1, h2, h3, h4, h5, h6, h7, h8, h9, hA⟩ := H
  omega
theorem setI_0 {t : Nat → Nat} {R0 R : RD} {n sp rp : Nat} {rt : Nat → Nat} (h : seB t R0 R n sp rp rt) : setI t R0 R n (hereB t n sp 45 45) (sp + bN (hereB t n sp 45 45)) 0 97 := by
  obtain ⟨h1, h2, h3, h4, h5, h6, h7, h8⟩ := h
  cases hz : hereB t n sp 45 45 with
  | true =>
    obtain ⟨hs, hc⟩ := here_t hz
    refine ⟨(3, rd_cnt R, rd_pl R, rd_bound R, true, rd_set R, rd_last R), run_s h1 ?_, hs, rfl, rfl, rfl, rfl, h4, by decide, by show rd_cnt R < sp + 1; omega, Or.inl ⟨rfl, rfl, Or.inr rfl⟩⟩
    rw [step2 h3, hc]
    rfl
  | false => exact ⟨R, h1, h2, rfl, rfl, rfl, h5, h4, by decide, by show rd_cnt R < sp + 0; omega, Or.inl ⟨rfl, rfl, Or.inl ⟨h3, fun hs => here_f hz hs⟩⟩⟩
theorem or_pos {a b : Nat} (h : 0 < b) : 0 < a ||| b := Nat.lt_of_lt_of_le h Nat.right_le_or
theorem setI_s {t : Nat → Nat} {R0 R : RD} {n sp st le : Nat} {h : Bool} (H : setI t R0 R n h sp st le) (hh : hereB t n sp le 122 = true) : setI t R0 R n h (sp + 1) (st ||| 2 ^ (t sp - 97)) (t sp + 1) := by
  have hle := setI_le H
  obtain ⟨Q, h1, h2, h3, h4, h5, h6, h7, h8, h9, hA⟩ := H
  have hz := of_decide_eq_true hh
  have hl : isLet (t sp) = true := decide_eq_true (by omega)
  have hs : rdLetter Q (t sp) = some (4, rd_cnt Q, rd_pl Q, rd_bound Q, rd_turned Q, rd_set Q ||| 2 ^ (t sp - 97), t sp) := by
    unfold rdLetter
    exact if_pos ⟨hl, by omega⟩
  have hq : rdStep Q (t sp) = rdLetter Q (t sp) := by
    rcases hA with ⟨a1, a2, ⟨a3, a4⟩ | a3⟩ | ⟨a1, a2, a3, a4⟩
    · rw [step2 a3]; unfold rdFirst; exact if_neg (by omega)
    · exact step3 a3
    · rw [step4 a3]; unfold rdRest; exact if_neg (by omega)
  exact ⟨_, run_s h1 (hq.trans hs), by omega, h3, h4, h5, h6, by rw [← h7], Nat.or_lt_two_pow (n := 26) h8 (pow_let hl), by omega, Or.inr ⟨or_pos (Nat.pow_pos (by decide)), rfl, rfl, by show 97 ≤ t sp; omega, by show t sp ≤ 122; omega⟩⟩
theorem setI_nl {t : Nat → Nat} {R0 R : RD} {n sp st le : Nat} {h : Bool} (H : setI t R0 R n h sp st le) (hh : hereB t n sp le 122 = false) (hb : 0 < st → sp < n → t sp ≠ 93) : rdBad t R0 n sp := by
  have hle := setI_le H
  obtain ⟨Q, h1, h2, h3, h4, h5, h6, h7, h8, h9, hA⟩ := H
  refine ⟨Q, h1, ?_⟩
  by_cases hs : sp < n
  · refine Or.inl ⟨hs, ?_⟩
    have hz := of_decide_eq_false hh
    have hl : rdLetter Q (t sp) = none := by
      unfold rdLetter
      refine if_neg (fun z => ?_)
      have z1 := isLet_ge z.1
      have z2 := z.2
      omega
    rcases hA with ⟨a1, a2, ⟨a3, a4⟩ | a3⟩ | ⟨a1, a2, a3, a4⟩
    · rw [step2 a3]; unfold rdFirst; rw [if_neg (a4 hs)]; exact hl
    · rw [step3 a3]; exact hl
    · rw [step4 a3]; unfold rdRest; rw [if_neg (hb a1 hs)]; exact hl
  · refine Or.inr ⟨by omega, fun z => ?_⟩
    have := z.1
    omega
theorem setI_ok {t : Nat → Nat} {R0 R : RD} {n sp st le rp : Nat} {rt : Nat → Nat} {h : Bool} (H : setI t R0 R n h sp st le) (h0 : st ≠ 0) (hh : hereB t n sp 93 93 = true) (hp : rp = rd_cnt R) (ht : ∀ i, i < rp → rt i = rd_pl R i) : rdOK t R0 n (sp + 1) (rp + 1) (va_up rt rp (if h = true then cmpl st else st)) (rd_bound R) := by
  obtain ⟨Q, h1, h2, h3, h4, h5, h6, h7, h8, h9, hA⟩ := H
  obtain ⟨hs, hc⟩ := here_t hh
  have hm : rd_mode Q = 4 := by omega
  refine ⟨rdAdd Q (if rd_turned Q = true then cmpl (rd_set Q) else rd_set Q), hs, run_s h1 ?_, rfl, Nat.succ_pos _, ?_, by omega, fun i hi => ?_, h5⟩
  · rw [step4 hm, hc]; rfl
  · show rp + 1 = rd_cnt Q + 1
    omega
  · show va_up rt rp _ i = va_up (rd_pl Q) (rd_cnt Q) _ i
    rw [h3, h4, h6, h7, ← hp]
    by_cases hi2 : i = rp
    · subst hi2; rw [va_up_self, va_up_self]
    · rw [va_up_ne _ _ hi2, va_up_ne _ _ hi2]; exact ht i (by omega)
/-- the class' reader and the reference's -/
theorem run_pre {t : Nat → Nat} {R0 : RD} : ∀ {d k : Nat} {Q : RD}, rdRun t R0 (k + d) = some Q → ∃ P, rdRun t R0 k = some P
  | 0, k, Q, h => ⟨Q, h⟩
  | d + 1, k, Q, h => by
    have h2 : (rdRun t R0 (k + d)).bind (fun Q => rdStep Q (t (k + d))) = some Q := h
    cases h3 : rdRun t R0 (k + d) with
    | none => rw [h3] at h2; exact absurd h2 (by simp)
    | some P => exact run_pre h3
theorem run_stop {t : Nat → Nat} {R0 P Q : RD} {k j : Nat} (h : rdRun t R0 k = some P) (hn : rdStep P (t k) = none) (h2 : rdRun t R0 j = some Q) : j ≤ k := by
  refine Decidable.byContradiction (fun z => ?_)
  obtain ⟨W, hW⟩ := run_pre (d := j - (k + 1)) (k := k + 1) (Q := Q) (by rw [show k + 1 + (j - (k + 1)) = j by omega]; exact h2)
  have h3 : (rdRun t R0 k).bind (fun Q => rdStep Q (t k)) = some W := hW
  rw [h] at h3
  have h4 : rdStep P (t k) = some W := h3
  rw [hn] at h4
  exact absurd h4 (by simp)
theorem fault_bad {t : Nat → Nat} {R0 R : RD} {n sp : Nat} {r : Int32} (h : rdFault t R0 n R r) (hb : rdBad t R0 n sp) : r = nI sp := by
  obtain ⟨Q, h1, h2⟩ := hb
  rcases h with ⟨k, hk, a1, a2, rfl⟩ | ⟨a1, rfl⟩
  · have b1 := run_stop a1 a2 h1
    rcases h2 with ⟨b2, b3⟩ | ⟨b2, b3⟩
    · have b4 := run_stop h1 b3 a1
      rw [show k = sp by omega]
    · omega
  · rcases h2 with ⟨b2, b3⟩ | ⟨rfl, b3⟩
    · have b4 := run_stop h1 b3 a1
      omega
    · rw [a1] at h1
      obtain rfl := Option.some.inj h1
      rw [if_neg b3]
theorem fault_ok {t : Nat → Nat} {R0 R : RD} {n rp : Nat} {rt : Nat → Nat} {bd : Bool} {r : Int32} (h : rdFault t R0 n R r) (hb : rdOK t R0 n n rp rt bd) : r = -1 ∧ rp = rd_cnt R ∧ 0 < rp ∧ (∀ i, i < rp → rt i = rd_pl R i) ∧ rd_bound R = bd := by
  obtain ⟨Q, h1, h2, h3, h4, h5, h6, h7, h8⟩ := hb
  rcases h with ⟨k, hk, a1, a2, rfl⟩ | ⟨a1, rfl⟩
  · have b1 := run_stop a1 a2 h2
    omega
  · rw [a1] at h2
    obtain rfl := Option.some.inj h2
    exact ⟨if_pos ⟨h3, h4⟩, h5, by omega, h7, h8⟩
theorem rdRun_congr {t t' : Nat → Nat} {R0 : RD} : ∀ {k : Nat}, (∀ i, i < k → t i = t' i) → rdRun t R0 k = rdRun t' R0 k
  | 0, _ => rfl
  | k + 1, h => by
    show (rdRun t R0 k).bind (fun Q => rdStep Q (t k)) = (rdRun t' R0 k).bind (fun Q => rdStep Q (t' k))
    rw [rdRun_congr (k := k) (fun i hi => h i (by omega)), h k (by omega)]
theorem rdFault_congr {t t' : Nat → Nat} {R0 R : RD} {n : Nat} {r : Int32} (h : ∀ i, i < n → t i = t' i) (H : rdFault t R0 n R r) : rdFault t' R0 n R r := by
  rcases H with ⟨k, hk, a1, a2, a3⟩ | ⟨a1, a2⟩
  · exact Or.inl ⟨k, hk, by rw [← rdRun_congr (fun i hi => h i (by omega))]; exact a1, by rw [← h k hk]; exact a2, a3⟩
  · exact Or.inr ⟨by rw [← rdRun_congr h]; exact a1, a2⟩
