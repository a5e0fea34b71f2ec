/-! rows of floats -/
theorem n_topf {p : Program} {l : Launch} {e : Env} {R : Room} {s : State} {m : MethodId} {args : Array Value} {below : List Frame} {meth : Method} {c : Code} {H : Heap} {locs : List Loc} {cells slots : Nat} {Q : State → Prop} {pc : Nat} {ls : Array Slot} {rest : List Value} {x y : UInt32} (h : x = y) (k : W p l e R s m args below meth c H locs cells slots Q (F0 m pc ls (.float y :: rest))) : W p l e R s m args below meth c H locs cells slots Q (F0 m pc ls (.float x :: rest)) := by rw [h]; exact k
theorem Met.ofWF {l : Launch} {y : MethodName} {ws ws' : List Cond} {rm : Room} {Pc : Array Value → State → Prop} {Qc : Array Value → State → Outcome → State → Prop} {mc ms : Nat} {free : Addr → Prop} {cc : ByteArray} {maxL : Nat} {ret : Option FieldType}
    (hy : plainFor y = true) (hw : ws = Cond.code y cc maxL ret :: ws')
    (body : ∀ p e s m args below meth c s₁, BodyLoose p l y (headSpec ws rm) cc maxL ret e s m args below meth c s₁ → c.maxLocals = maxL → Pc args s →
      W p l e (headSpec ws rm).room s m args below meth c s.heap [] 0 0 (MQ below Qc args s mc ms free) (entryFrame m args maxL)) : Met l y ws rm Pc Qc mc ms free := by
  refine MetFree.of_bodySF (code := cc) (maxLocals := maxL) (ret := ret) hy ?_ ?_
  · intro args s m h hn
    obtain ⟨meth, c, h1, h2, h3, h4, h5, h6, -, -⟩ := Cond.code_spec hn (atoms_spec (ws := ws) h _ (by rw [hw]; exact List.mem_cons_self))
    exact ⟨meth, c, h1, h2, h3, h4, h5, h6⟩
  · intro p e s m args below meth c s₁ B hml hP _
    have hh0 : s₁.heap = s.heap := by rw [B.state]; rfl
    obtain ⟨t, a1, o, b1, b2, b3⟩ := body p e s m args below meth c s₁ B hml hP s₁ hh0 (Stand.of_body B)
    exact ⟨t, o, a1, b1, b2, ⟨b3.1, b3.2⟩⟩
theorem CtI.ofF {σ : Type} {l : Launch} {y : MethodName} {wds ws' : List Cond} {rm : Room} {G : GX} {w : σ → va_W} {S : σ} {av : List Value} {post : Int32 → σ → Prop} {mc ms : Nat} {cc : ByteArray} {maxL : Nat} {ret : Option FieldType}
    (hy : plainFor y = true) (hw : wds = Cond.code y cc maxL ret :: ws') (hav : (lg_sl av).length ≤ maxL)
    (body : ∀ p e s m args below meth c ls A, CallFix p m c cc maxL s args wds y.cls → meth.sig.returnType = ret → meth.locks = false → (y.name = "<init>" → meth.name = "<init>") → KK G s → (∀ q : Nat, s.heap.size ≤ q → A q) → HH G A s.heap (w S) s.heap [] → lv_has ls maxL (lv_args 0 av) →
      W p l e rm s m args below meth c s.heap [] 0 0 (EndI G w A post below args s mc ms) (F0 m 0 ls [])) : CtI l y wds rm G w S av post mc ms := by
  intro sz
  refine Met.ofWF (cc := cc) (maxL := maxL) (ret := ret) hy hw ?_
  intro p e s m args below meth c s₁ B hml hv
  obtain ⟨rfl, hsz, hP, hK, hD0⟩ := hv
  have hl := lv_entry av (n := maxL) hav
  rw [lg_entry_eq]
  generalize (lg_sl av ++ List.replicate (maxL - (lg_sl av).length) Slot.unset).toArray = ls at hl ⊢
  exact body p e s m _ below meth c ls (va_A (w S) sz) ⟨B.exec, B.bytes, hml, findClass_of_methodNamed B.named, atoms_spec (ws := wds) B.pre⟩ B.returns B.notSynchronized (fun h => (name_of_methodNamed B.named B.method).1.trans h) hK (fun q hq => Or.inr (by rw [← hsz]; exact hq)) ⟨hP, hD0.self, va_S.rf⟩ hl
theorem fb_self {m : Nat} (h2 : m < 2139095040) : Op.cmpValue (FP.fcmp (fb m) (fb m)) .l = nI 0 := by
  have h3 : FP.fcmp (fb m) (fb m) = some (compare (FP.Core.fkey (fb m)) (FP.Core.fkey (fb m))) := FP.Core.fcmp_key (fb_nn h2) (fb_nn h2)
  rw [h3, (FP.Core.compare_eq_iff _ _).mpr rfl]
  rfl
theorem fb_int (m : Nat) : (fb m).toInt32 = nI m := by
  refine Int32.toBitVec_inj.mp ?_
  show BitVec.ofNat 32 m = BitVec.ofNat 32 m
  rfl
theorem shl23 : ∀ k, k < 128 → nI k <<< (nI 23 &&& 31) = nI (k * 8388608) := by decide +kernel
theorem fb_inj {a b : Nat} (ha : a < 2 ^ 32) (hb : b < 2 ^ 32) (h : fb a = fb b) : a = b := by
  have := congrArg UInt32.toNat h
  rwa [fb_nat ha, fb_nat hb] at this
