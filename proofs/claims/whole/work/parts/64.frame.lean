/-! other cells stand beside a call's; more room -/
theorem va_P.left {D : va_G} {cl : List vw_C} {w1 w2 : va_W} {H : Heap} (h : va_P D cl (w1 ++ w2) H) : va_P D cl w1 H := fun k q hk => h k q (by rw [List.getElem?_append_left (List.getElem?_eq_some_iff.mp hk).1]; exact hk)
theorem va_P.right {D : va_G} {cl : List vw_C} {w1 w2 : va_W} {H : Heap} (h : va_P D cl (w1 ++ w2) H) : va_P D cl w2 H := fun k q hk => h (w1.length + k) q (by rw [List.getElem?_append_right (Nat.le_add_right _ _), Nat.add_sub_cancel_left]; exact hk)
theorem va_P.turn {D : va_G} {cl : List vw_C} {w1 w2 : va_W} {H : Heap} (h : va_P D cl (w1 ++ w2) H) : va_P D cl (w2 ++ w1) H := h.right.app h.left
theorem va_D.left {A : Nat → Prop} {w1 w2 : va_W} (h : va_D A (w1 ++ w2)) : va_D A w1 :=
  ⟨fun i j p q hi hj e => h.1 i j p q (by rw [List.getElem?_append_left (List.getElem?_eq_some_iff.mp hi).1]; exact hi) (by rw [List.getElem?_append_left (List.getElem?_eq_some_iff.mp hj).1]; exact hj) e,
   fun k q hk => h.2 k q (by rw [List.getElem?_append_left (List.getElem?_eq_some_iff.mp hk).1]; exact hk)⟩
theorem va_D.right {A : Nat → Prop} {w1 w2 : va_W} (h : va_D A (w1 ++ w2)) : va_D A w2 :=
  ⟨fun i j p q hi hj e => by
    have h1 := h.1 (w1.length + i) (w1.length + j) p q (by rw [List.getElem?_append_right (Nat.le_add_right _ _), Nat.add_sub_cancel_left]; exact hi) (by rw [List.getElem?_append_right (Nat.le_add_right _ _), Nat.add_sub_cancel_left]; exact hj) e
    omega,
   fun k q hk => h.2 (w1.length + k) q (by rw [List.getElem?_append_right (Nat.le_add_right _ _), Nat.add_sub_cancel_left]; exact hk)⟩
theorem va_D.cross {A : Nat → Prop} {w1 w2 : va_W} (h : va_D A (w1 ++ w2)) {i j : Nat} {p q : Nat × va_E} (hi : w1[i]? = some p) (hj : w2[j]? = some q) : p.1 ≠ q.1 := fun e => by
  have h2 := (List.getElem?_eq_some_iff.mp hi).1
  have h1 := h.1 i (w1.length + j) p q (by rw [List.getElem?_append_left h2]; exact hi) (by rw [List.getElem?_append_right (Nat.le_add_right _ _), Nat.add_sub_cancel_left]; exact hj) e
  omega
theorem va_D.turn {A : Nat → Prop} {w1 w2 : va_W} (h : va_D A (w1 ++ w2)) : va_D A (w2 ++ w1) := h.right.app h.left (fun i j p q hi hj => Ne.symm (h.cross hj hi))
theorem va_A.left {w1 w2 : va_W} {sz q : Nat} (h : va_A w1 sz q) : va_A (w1 ++ w2) sz q := by
  rcases h with ⟨k, e, h⟩ | h
  · exact Or.inl ⟨k, e, by rw [List.getElem?_append_left (List.getElem?_eq_some_iff.mp h).1]; exact h⟩
  · exact Or.inr h
theorem va_A.right {w1 w2 : va_W} {sz q : Nat} (h : va_A w2 sz q) : va_A (w1 ++ w2) sz q := by
  rcases h with ⟨k, e, h⟩ | h
  · exact Or.inl ⟨w1.length + k, e, by rw [List.getElem?_append_right (Nat.le_add_right _ _), Nat.add_sub_cancel_left]; exact h⟩
  · exact Or.inr h
theorem hh_turn {G : GX} {A : Nat → Prop} {H0 H : Heap} {locs : List Loc} {w1 w2 : va_W} (h : HH G A H0 (w1 ++ w2) H locs) : HH G A H0 (w2 ++ w1) H locs := ⟨h.1.turn, h.2.1.turn, h.2.2⟩
theorem hh_swap {G : GX} {A : Nat → Prop} {H0 H : Heap} {locs : List Loc} {a b c : va_W} (h : HH G A H0 ((a ++ b) ++ c) H locs) : HH G A H0 ((a ++ c) ++ b) H locs := ⟨h.1.swap, h.2.1.swap, h.2.2⟩
theorem fr_BB {G : GX} {w1 w1' R : va_W} {sz : Nat} {av : List Value} {a : Array Value} {s t : State} (hp : PreC G (w1 ++ R) sz av a s) (hB : BB G (va_A w1 sz) w1' t) (hF : va_F (va_A w1 sz) s t) : BB G (va_A (w1 ++ R) sz) (w1' ++ R) t := by
  obtain ⟨-, hsz, hP, -, hD⟩ := hp
  have hno : ∀ (k : Nat) (q : Nat × va_E), R[k]? = some q → q.1 < s.heap.size ∧ ¬ va_A w1 sz q.1 := fun k q hk => by
    have h1 := (hP.right k q hk).lt
    refine ⟨h1, fun z => ?_⟩
    rcases z with ⟨i, e, hi⟩ | z
    · exact hD.cross hi hk rfl
    · omega
  refine ⟨hB.1.app (hP.right.kept (fun k q hk => hF.2 q.1 (hno k q hk).1 (hno k q hk).2)), (hB.2.weaken (fun _ _ _ h => va_A.left h)).app ⟨hD.right.1, fun k q hk => va_A.right (va_A.in hk)⟩ (fun i j p q hi hj e => ?_)⟩
  have h1 := hB.2.2 i p hi
  rw [e] at h1
  exact (hno j q hj).2 h1
theorem fr_pre {G : GX} {w1 R : va_W} {sz : Nat} {av : List Value} {a : Array Value} {s : State} (hp : PreC G (w1 ++ R) sz av a s) : PreC G w1 sz av a s := ⟨hp.1, hp.2.1, hp.2.2.1.left, hp.2.2.2.1, hp.2.2.2.2.left⟩
theorem fr_F {w1 R : va_W} {sz : Nat} {s t : State} (h : va_F (va_A w1 sz) s t) : va_F (va_A (w1 ++ R) sz) s t := ⟨h.1, fun q h1 h2 => h.2 q h1 (fun z => h2 (va_A.left z))⟩
theorem fr_preT {G : GX} {w1 w2 : va_W} {sz : Nat} {av : List Value} {a : Array Value} {s : State} (hp : PreC G (w1 ++ w2) sz av a s) : PreC G (w2 ++ w1) sz av a s := ⟨hp.1, hp.2.1, hp.2.2.1.turn, hp.2.2.2.1, hp.2.2.2.2.turn⟩
theorem va_A.turn {w1 w2 : va_W} {sz q : Nat} (h : va_A (w1 ++ w2) sz q) : va_A (w2 ++ w1) sz q := by
  rcases h with ⟨k, e, h⟩ | h
  · by_cases hk : k < w1.length
    · rw [List.getElem?_append_left hk] at h; exact va_A.right (Or.inl ⟨k, e, h⟩)
    · rw [List.getElem?_append_right (by omega)] at h; exact va_A.left (Or.inl ⟨_, e, h⟩)
  · exact Or.inr h
theorem fr_FT {w1 w2 : va_W} {sz : Nat} {s t : State} (h : va_F (va_A (w1 ++ w2) sz) s t) : va_F (va_A (w2 ++ w1) sz) s t := ⟨h.1, fun q h1 h2 => h.2 q h1 (fun z => h2 (va_A.turn z))⟩
theorem fr_BBT {G : GX} {A : Nat → Prop} {w1 w2 a b : va_W} {sz : Nat} {t : State} (h : BB G (va_A (w1 ++ w2) sz) (a ++ b) t) : BB G (va_A (w2 ++ w1) sz) (b ++ a) t := ⟨h.1.turn, h.2.turn.weaken (fun _ _ _ z => va_A.turn z)⟩
theorem FrameEnd.more {s t : State} {o : Outcome} {L : List Loc} {k n k' n' : Nat} (h : FrameEnd s o t L k n) (hk : k ≤ k') (hn : n ≤ n') : FrameEnd s o t L k' n' := ⟨h.1, h.2.1, State.sameButNew.mono h.2.2 hk hn⟩
theorem MQ.more {below : List Frame} {Qc : Array Value → State → Outcome → State → Prop} {a : Array Value} {s t : State} {mc ms mc' ms' : Nat} {free : Addr → Prop} (hc : mc ≤ mc') (hs : ms ≤ ms') (h : MQ below Qc a s mc ms free t) : MQ below Qc a s mc' ms' free t := by
  obtain ⟨o, h1, h2, h3, L, h4, h5⟩ := h
  exact ⟨o, h1, h2, h3, L, FrameEnd.more h4 hc hs, h5⟩
theorem W.imp9 {p : Program} {l : Launch} {e : Env} {R : Room} {s : State} {m : MethodId} {args : Array Value} {below : List Frame} {meth : Method} {c : Code} {H : Heap} {locs : List Loc} {cells slots : Nat} {Q Q' : State → Prop} {g : JFrame} (h : ∀ t, Q t → Q' t) (k : W p l e R s m args below meth c H locs cells slots Q g) : W p l e R s m args below meth c H locs cells slots Q' g := by
  intro T hT X
  obtain ⟨t, a, b⟩ := k T hT X
  exact ⟨t, a, h t b⟩
theorem CtI.frame {σ : Type} {l : Launch} {y : MethodName} {wds : List Cond} {rm : Room} {G : GX} {w : σ → va_W} {S : σ} {av : List Value} {post : Int32 → σ → Prop} {mc ms : Nat} (h : CtI l y wds rm G w S av post mc ms) (R : va_W) : CtI l y wds rm G (fun S' => w S' ++ R) S av post mc ms := fun sz =>
  MetFree.mono (h sz) (fun _ _ hp => fr_pre hp) (fun _ _ _ _ _ hk => hk) (fun a s o t hp hq => by
    obtain ⟨⟨⟨r, u, h1, h2, h3⟩, hF⟩, L, hE, hL⟩ := hq
    exact ⟨⟨⟨r, u, h1, h2, (fr_BB hp h3 hF)⟩, fr_F hF⟩, L, hE, fun q hq => va_A.left (hL q hq)⟩)
theorem CtI.frameL {σ : Type} {l : Launch} {y : MethodName} {wds : List Cond} {rm : Room} {G : GX} {w : σ → va_W} {S : σ} {av : List Value} {post : Int32 → σ → Prop} {mc ms : Nat} (h : CtI l y wds rm G w S av post mc ms) (R : va_W) : CtI l y wds rm G (fun S' => R ++ w S') S av post mc ms := fun sz =>
  MetFree.mono (h.frame R sz) (fun _ _ hp => fr_preT hp) (fun _ _ _ _ _ hk => hk) (fun a s o t hp hq => by
    obtain ⟨⟨⟨r, u, h1, h2, h3⟩, hF⟩, L, hE, hL⟩ := hq
    exact ⟨⟨⟨r, u, h1, h2, (fr_BBT (A := fun _ => True) h3)⟩, fr_FT hF⟩, L, hE, fun q hq => va_A.turn (hL q hq)⟩)
theorem EndI.more {σ : Type} {G : GX} {w : σ → va_W} {A : Nat → Prop} {post : Int32 → σ → Prop} {p : Program} {l : Launch} {e : Env} {R : Room} {s : State} {m : MethodId} {args : Array Value} {below : List Frame} {meth : Method} {c : Code} {H : Heap} {locs : List Loc} {cells slots mc ms mc' ms' : Nat} {g : JFrame} (hc : mc ≤ mc') (hs : ms ≤ ms') (k : W p l e R s m args below meth c H locs cells slots (EndI G w A post below args s mc ms) g) : W p l e R s m args below meth c H locs cells slots (EndI G w A post below args s mc' ms') g := W.imp9 (fun t h => MQ.more hc hs h) k
theorem CtL.frame {σ : Type} {l : Launch} {y : MethodName} {wds : List Cond} {rm : Room} {G : GX} {w : σ → va_W} {S : σ} {av : List Value} {post : Int64 → σ → Prop} {mc ms : Nat} (h : CtL l y wds rm G w S av post mc ms) (R : va_W) : CtL l y wds rm G (fun S' => w S' ++ R) S av post mc ms := fun sz =>
  MetFree.mono (h sz) (fun _ _ hp => fr_pre hp) (fun _ _ _ _ _ hk => hk) (fun a s o t hp hq => by
    obtain ⟨⟨⟨r, u, h1, h2, h3⟩, hF⟩, L, hE, hL⟩ := hq
    exact ⟨⟨⟨r, u, h1, h2, (fr_BB hp h3 hF)⟩, fr_F hF⟩, L, hE, fun q hq => va_A.left (hL q hq)⟩)
theorem CtL.frameL {σ : Type} {l : Launch} {y : MethodName} {wds : List Cond} {rm : Room} {G : GX} {w : σ → va_W} {S : σ} {av : List Value} {post : Int64 → σ → Prop} {mc ms : Nat} (h : CtL l y wds rm G w S av post mc ms) (R : va_W) : CtL l y wds rm G (fun S' => R ++ w S') S av post mc ms := fun sz =>
  MetFree.mono (h.frame R sz) (fun _ _ hp => fr_preT hp) (fun _ _ _ _ _ hk => hk) (fun a s o t hp hq => by
    obtain ⟨⟨⟨r, u, h1, h2, h3⟩, hF⟩, L, hE, hL⟩ := hq
    exact ⟨⟨⟨r, u, h1, h2, (fr_BBT (A := fun _ => True) h3)⟩, fr_FT hF⟩, L, hE, fun q hq => va_A.turn (hL q hq)⟩)
theorem EndL.more {σ : Type} {G : GX} {w : σ → va_W} {A : Nat → Prop} {post : Int64 → σ → Prop} {p : Program} {l : Launch} {e : Env} {R : Room} {s : State} {m : MethodId} {args : Array Value} {below : List Frame} {meth : Method} {c : Code} {H : Heap} {locs : List Loc} {cells slots mc ms mc' ms' : Nat} {g : JFrame} (hc : mc ≤ mc') (hs : ms ≤ ms') (k : W p l e R s m args below meth c H locs cells slots (EndL G w A post below args s mc ms) g) : W p l e R s m args below meth c H locs cells slots (EndL G w A post below args s mc' ms') g := W.imp9 (fun t h => MQ.more hc hs h) k
theorem CtD.frame {σ : Type} {l : Launch} {y : MethodName} {wds : List Cond} {rm : Room} {G : GX} {w : σ → va_W} {S : σ} {av : List Value} {post : UInt64 → σ → Prop} {mc ms : Nat} (h : CtD l y wds rm G w S av post mc ms) (R : va_W) : CtD l y wds rm G (fun S' => w S' ++ R) S av post mc ms := fun sz =>
  MetFree.mono (h sz) (fun _ _ hp => fr_pre hp) (fun _ _ _ _ _ hk => hk) (fun a s o t hp hq => by
    obtain ⟨⟨⟨r, u, h1, h2, h3⟩, hF⟩, L, hE, hL⟩ := hq
    exact ⟨⟨⟨r, u, h1, h2, (fr_BB hp h3 hF)⟩, fr_F hF⟩, L, hE, fun q hq => va_A.left (hL q hq)⟩)
theorem CtD.frameL {σ : Type} {l : Launch} {y : MethodName} {wds : List Cond} {rm : Room} {G : GX} {w : σ → va_W} {S : σ} {av : List Value} {post : UInt64 → σ → Prop} {mc ms : Nat} (h : CtD l y wds rm G w S av post mc ms) (R : va_W) : CtD l y wds rm G (fun S' => R ++ w S') S av post mc ms := fun sz =>
  MetFree.mono (h.frame R sz) (fun _ _ hp => fr_preT hp) (fun _ _ _ _ _ hk => hk) (fun a s o t hp hq => by
    obtain ⟨⟨⟨r, u, h1, h2, h3⟩, hF⟩, L, hE, hL⟩ := hq
    exact ⟨⟨⟨r, u, h1, h2, (fr_BBT (A := fun _ => True) h3)⟩, fr_FT hF⟩, L, hE, fun q hq => va_A.turn (hL q hq)⟩)
theorem EndD.more {σ : Type} {G : GX} {w : σ → va_W} {A : Nat → Prop} {post : UInt64 → σ → Prop} {p : Program} {l : Launch} {e : Env} {R : Room} {s : State} {m : MethodId} {args : Array Value} {below : List Frame} {meth : Method} {c : Code} {H : Heap} {locs : List Loc} {cells slots mc ms mc' ms' : Nat} {g : JFrame} (hc : mc ≤ mc') (hs : ms ≤ ms') (k : W p l e R s m args below meth c H locs cells slots (EndD G w A post below args s mc ms) g) : W p l e R s m args below meth c H locs cells slots (EndD G w A post below args s mc' ms') g := W.imp9 (fun t h => MQ.more hc hs h) k
theorem CtV.frame {σ : Type} {l : Launch} {y : MethodName} {wds : List Cond} {rm : Room} {G : GX} {w : σ → va_W} {S : σ} {av : List Value} {post : σ → Prop} {mc ms : Nat} (h : CtV l y wds rm G w S av post mc ms) (R : va_W) : CtV l y wds rm G (fun S' => w S' ++ R) S av post mc ms := fun sz =>
  MetFree.mono (h sz) (fun _ _ hp => fr_pre hp) (fun _ _ _ _ _ hk => hk) (fun a s o t hp hq => by
    obtain ⟨⟨⟨u, h1, h2, h3⟩, hF⟩, L, hE, hL⟩ := hq
    exact ⟨⟨⟨u, h1, h2, (fr_BB hp h3 hF)⟩, fr_F hF⟩, L, hE, fun q hq => va_A.left (hL q hq)⟩)
theorem CtV.frameL {σ : Type} {l : Launch} {y : MethodName} {wds : List Cond} {rm : Room} {G : GX} {w : σ → va_W} {S : σ} {av : List Value} {post : σ → Prop} {mc ms : Nat} (h : CtV l y wds rm G w S av post mc ms) (R : va_W) : CtV l y wds rm G (fun S' => R ++ w S') S av post mc ms := fun sz =>
  MetFree.mono (h.frame R sz) (fun _ _ hp => fr_preT hp) (fun _ _ _ _ _ hk => hk) (fun a s o t hp hq => by
    obtain ⟨⟨⟨u, h1, h2, h3⟩, hF⟩, L, hE, hL⟩ := hq
    exact ⟨⟨⟨u, h1, h2, (fr_BBT (A := fun _ => True) h3)⟩, fr_FT hF⟩, L, hE, fun q hq => va_A.turn (hL q hq)⟩)
theorem EndV.more {σ : Type} {G : GX} {w : σ → va_W} {A : Nat → Prop} {post : σ → Prop} {p : Program} {l : Launch} {e : Env} {R : Room} {s : State} {m : MethodId} {args : Array Value} {below : List Frame} {meth : Method} {c : Code} {H : Heap} {locs : List Loc} {cells slots mc ms mc' ms' : Nat} {g : JFrame} (hc : mc ≤ mc') (hs : ms ≤ ms') (k : W p l e R s m args below meth c H locs cells slots (EndV G w A post below args s mc ms) g) : W p l e R s m args below meth c H locs cells slots (EndV G w A post below args s mc' ms') g := W.imp9 (fun t h => MQ.more hc hs h) k
theorem CtQ.frame {σ : Type} {l : Launch} {y : MethodName} {wds : List Cond} {rm : Room} {G : GX} {w : σ → va_W} {S : σ} {av : List Value} {post : Option Nat → σ → Prop} {mc ms : Nat} (h : CtQ l y wds rm G w S av post mc ms) (R : va_W) : CtQ l y wds rm G (fun S' => w S' ++ R) S av post mc ms := fun sz =>
  MetFree.mono (h sz) (fun _ _ hp => fr_pre hp) (fun _ _ _ _ _ hk => hk) (fun a s o t hp hq => by
    obtain ⟨⟨⟨r, u, h1, h2, h3⟩, hF⟩, L, hE, hL⟩ := hq
    exact ⟨⟨⟨r, u, h1, h2, (fr_BB hp h3 hF)⟩, fr_F hF⟩, L, hE, fun q hq => va_A.left (hL q hq)⟩)
theorem CtQ.frameL {σ : Type} {l : Launch} {y : MethodName} {wds : List Cond} {rm : Room} {G : GX} {w : σ → va_W} {S : σ} {av : List Value} {post : Option Nat → σ → Prop} {mc ms : Nat} (h : CtQ l y wds rm G w S av post mc ms) (R : va_W) : CtQ l y wds rm G (fun S' => R ++ w S') S av post mc ms := fun sz =>
  MetFree.mono (h.frame R sz) (fun _ _ hp => fr_preT hp) (fun _ _ _ _ _ hk => hk) (fun a s o t hp hq => by
    obtain ⟨⟨⟨r, u, h1, h2, h3⟩, hF⟩, L, hE, hL⟩ := hq
    exact ⟨⟨⟨r, u, h1, h2, (fr_BBT (A := fun _ => True) h3)⟩, fr_FT hF⟩, L, hE, fun q hq => va_A.turn (hL q hq)⟩)
theorem EndQ.more {σ : Type} {G : GX} {w : σ → va_W} {A : Nat → Prop} {post : Option Nat → σ → Prop} {p : Program} {l : Launch} {e : Env} {R : Room} {s : State} {m : MethodId} {args : Array Value} {below : List Frame} {meth : Method} {c : Code} {H : Heap} {locs : List Loc} {cells slots mc ms mc' ms' : Nat} {g : JFrame} (hc : mc ≤ mc') (hs : ms ≤ ms') (k : W p l e R s m args below meth c H locs cells slots (EndQ G w A post below args s mc ms) g) : W p l e R s m args below meth c H locs cells slots (EndQ G w A post below args s mc' ms') g := W.imp9 (fun t h => MQ.more hc hs h) k
section NEWC
variable {p : Program} {l : Launch} {e : Env} {R : Room} {s : State} {m : MethodId} {args : Array Value} {below : List Frame} {meth : Method} {c : Code} {H : Heap} {locs : List Loc} {cells slots : Nat} {Q : State → Prop} {pc : Nat} {ls : Array Slot} {rest : List Value} {cc : ByteArray} {nL : Nat} {Ts : List Cond} {own : String} {G : GX} {A : Nat → Prop}
theorem ra_eq {D : va_G} {cl : List vw_C} {tys : List (ClassId × FieldType)} {ty : FieldType} {cA cB : ClassId} {i : Nat} (h : va_K D cl (tys ++ [(cA, ty)]) s) (hi : tys[i]? = some (cB, ty)) : cA = cB := by
  have h1 := (h.2 i (cB, ty) (by rw [List.getElem?_append_left (List.getElem?_eq_some_iff.mp hi).1]; exact hi)).2
  have h2 := (h.2 tys.length (cA, ty) (by rw [List.getElem?_append_right (Nat.le_refl _), Nat.sub_self]; rfl)).2
  have key : s.vm.findClass ("[" ++ ty.toString) = some cB ∧ s.vm.findClass ("[" ++ ty.toString) = some cA := by
    cases ty with
    | object C =>
      obtain ⟨_, _, _, _, _, e1⟩ := h1
      obtain ⟨_, _, _, _, _, e2⟩ := h2
      exact ⟨e1, e2⟩
    | _ => exact ⟨h1, h2⟩
  exact Option.some.inj (key.2.symm.trans key.1)
theorem y_newa (hC : CallFix p m c cc nL s args Ts own) (hK : KK G s) {ws : va_W} (hX : HH G A s.heap ws H locs) (hA : ∀ q : Nat, s.heap.size ≤ q → A q) {atype : ArrayType} (harr : (Cond.arrayClass (newarray.typeOf atype)).before args s = true) {N : Nat} {a0 : vp_A} {cB : ClassId} {i : Nat} (ha : ∀ cA : ClassId, vp_cell cA a0 = arrV cA N (fun _ => defaultValue (newarray.typeOf atype))) (hi : (tyG G)[i]? = some (cB, newarray.typeOf atype)) (hN : N ≤ 10000) (hcells : cells + 1 ≤ R.cells) (hslots : slots + N ≤ R.slots) (hd : decode cc pc = .ok (.newarray atype, 2))
    (kk : ∀ (q : Nat) (H1 : Heap), HH G A s.heap (ws ++ [(q, .inl (cB, a0))]) H1 locs → W p l e R s m args below meth c H1 locs (cells + 1) (slots + N) Q (F0 m (pc + 2) ls (.ref q :: rest))) : W p l e R s m args below meth c H locs cells slots Q (F0 m pc ls (.int (nI N) :: rest)) :=
  va_newa hC.1 hC.2.1 harr rfl hK.1 hX.1 hX.2.1 hX.2.2 hA ha (by rw [Int32.lt_iff_toInt_lt, nI_toInt (by omega)]; exact Int.not_lt.mpr (by show (0 : Int) ≤ _; omega)) (nI_clamp (by omega)) (by cases atype <;> simp only [newarray.typeOf, componentBytes] <;> omega) hcells hslots hd (fun q cA H1 k1 k2 k3 k4 => by
    obtain rfl := ra_eq k1 hi
    exact kk q H1 ⟨k2, k3, k4⟩)
theorem y_newq (hC : CallFix p m c cc nL s args Ts own) (hK : KK G s) {ws : va_W} (hX : HH G A s.heap ws H locs) (hA : ∀ q : Nat, s.heap.size ≤ q → A q) {C : String} {index : Nat} (hclink : (Cond.classLink own index C).before args s = true) (hover : va_AO C s) {N : Nat} {cB : ClassId} {i : Nat} (hi : (tyG G)[i]? = some (cB, .object C)) (hN : N ≤ 10000) (hcells : cells + 1 ≤ R.cells) (hslots : slots + N ≤ R.slots) (hd : decode cc pc = .ok (.anewarray index, 3))
    (kk : ∀ (q : Nat) (H1 : Heap), HH G A s.heap (ws ++ [(q, .inl (cB, N, .inr (.inr (.inr (.inr (fun _ => none))))))]) H1 locs → W p l e R s m args below meth c H1 locs (cells + 1) (slots + N) Q (F0 m (pc + 3) ls (.ref q :: rest))) : W p l e R s m args below meth c H locs cells slots Q (F0 m pc ls (.int (nI N) :: rest)) :=
  va_newq hC.1 hC.2.1 hC.2.2.2.1 hclink hover hK.1 hX.1 hX.2.1 hX.2.2 hA (by rw [Int32.lt_iff_toInt_lt, nI_toInt (by omega)]; exact Int.not_lt.mpr (by show (0 : Int) ≤ _; omega)) (nI_clamp (by omega)) (by omega) hcells hslots hd (fun q cA H1 k1 k2 k3 k4 => by
    obtain rfl := ra_eq k1 hi
    exact kk q H1 ⟨k2, k3, k4⟩)
theorem y_init {σ : Type} {w : σ → va_W} {S : σ} {As : List Value} {post : σ → Prop} {mc ms n index maxL : Nat} {y : MethodName} {bytes : ByteArray} {ws : List Cond} {rm : Room} {st : List Value} {b : Nat} (hC : CallFix p m c cc nL s args Ts own) (hK : KK G s) (hA : ∀ q : Nat, s.heap.size ≤ q → A q) (hX : HH G A s.heap (w S) H locs)
    (hM : CtV l y ws rm G w S (.ref b :: As) post mc ms) (cw : CallB R s args own index y bytes maxL none ws rm mc ms n ∧ y.name = "<init>" ∧ (Cond.instanceMethod y).before args s = true) (hd : decode cc pc = .ok (.invokespecial index, 3)) (hn : As.length = n) (hl : ls.size = nL) (hst : st = As.reverse ++ .ref b :: rest) (hcat : (rest.map fun v => v.category).sum ≤ 8) (hf : cells + mc ≤ R.cells ∧ slots + ms ≤ R.slots)
    (kk : ∀ (S' : σ) (H1 : Heap) (locs1 : List Loc), post S' → HH G A s.heap (w S') H1 locs1 → W p l e R s m args below meth c H1 locs1 (cells + mc) (slots + ms) Q (F0 m (pc + 3) ls (rest))) : W p l e R s m args below meth c H locs cells slots Q (F0 m pc ls st) :=
  va_callv (va_runI (g := F0 m pc ls st) (As := As) (rest := rest) hC (hM H.size) cw ⟨PreC_blind, hh_pre hK hX⟩ rfl hn hl hst (lv_room hcat) hd hf) hX.2.2 (fun q _ h => hh_free hX hA q h) (hh_free hX hA) (fun u t H1 locs1 ht hvm hw hB hz1 hk1 hS => kk u H1 locs1 hw ⟨by rw [← ht]; exact hB.1, hB.2.weaken (fun k q _ h => hh_free hX hA q.1 h), hS⟩)
theorem y_initN {σ : Type} {w : σ → va_W} {S : σ} {As : List Value} {post : σ → Prop} {mc ms n index maxL : Nat} {y : MethodName} {bytes : ByteArray} {ws : List Cond} {rm : Room} {st : List Value} {b : Nat} {host : String} (hC : CallFix p m c cc nL s args Ts own) (hK : KK G s) (hA : ∀ q : Nat, s.heap.size ≤ q → A q) (hX : HH G A s.heap (w S) H locs)
    (hM : CtV l y ws rm G w S (.ref b :: As) post mc ms) (cw : va_CN R s args own index y host bytes maxL none ws rm mc ms n ∧ y.name = "<init>" ∧ (Cond.instanceMethod y).before args s = true) (hd : decode cc pc = .ok (.invokespecial index, 3)) (hn : As.length = n) (hl : ls.size = nL) (hst : st = As.reverse ++ .ref b :: rest) (hcat : (rest.map fun v => v.category).sum ≤ 8) (hf : cells + mc ≤ R.cells ∧ slots + ms ≤ R.slots)
    (kk : ∀ (S' : σ) (H1 : Heap) (locs1 : List Loc), post S' → HH G A s.heap (w S') H1 locs1 → W p l e R s m args below meth c H1 locs1 (cells + mc) (slots + ms) Q (F0 m (pc + 3) ls (rest))) : W p l e R s m args below meth c H locs cells slots Q (F0 m pc ls st) :=
  va_callv (va_runIN (g := F0 m pc ls st) (As := As) (rest := rest) hC (hM H.size) cw ⟨PreC_blind, hh_pre hK hX⟩ rfl hn hl hst (lv_room hcat) hd hf) hX.2.2 (fun q _ h => hh_free hX hA q h) (hh_free hX hA) (fun u t H1 locs1 ht hvm hw hB hz1 hk1 hS => kk u H1 locs1 hw ⟨by rw [← ht]; exact hB.1, hB.2.weaken (fun k q _ h => hh_free hX hA q.1 h), hS⟩)
end NEWC
