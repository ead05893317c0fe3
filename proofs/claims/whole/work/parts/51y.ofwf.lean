section CTX
variable {p : Program} {l : Launch} {e : Env} {R : Room} {s : State} {m : MethodId} {args : Array Value} {below : List Frame} {meth : Method} {c : Code} {H : Heap} {locs : List Loc} {cells slots : Nat} {Q : State → Prop}
variable {D : va_G} {B : Nat} {adK adV : Nat → Nat} {tys : List (ClassId × FieldType)} {ws ws' win wout : va_W} {A : Nat → Prop} {y : MethodName} {cc bytes : ByteArray} {wsy Ts : List Cond} {rm : Room} {maxL nL n index pc : Nat} {ret : Option FieldType} {own C : String} {b : Addr} {As rest st0 : List Value} {ls : Array Slot} {rv : Option Value} {a : Array Value}
theorem Ct.ofWF {wsy' : List Cond} {av : List Value} (hy : plainFor y = true) (hw : wsy = Cond.code y cc maxL ret :: wsy') (hlen : (lg_sl av).length ≤ maxL)
    (k : ∀ (p : Program) (e : Env) (s : State) (m : MethodId) (args : Array Value) (below : List Frame) (meth : Method) (c : Code), p.tables.exec = Jvm.exec → c.code = cc → meth.sig.returnType = ret → c.maxLocals = maxL → (∀ w ∈ wsy, w.before args s = true) → s.vm.findClass y.cls = some m.cls → meth.locks = false → meth.name = y.name → va_K D vwCl tys s → Ev B adK adV s s.heap → ∀ (A : Nat → Prop) (Q : State → Prop), Q = MQ below (Qs rv D A wout) args s 0 0 A → (∀ q, A q → B ≤ q) →
      ∀ (H : Heap) (locs : List Loc) (ls : Array Slot), va_P D vwCl win H → va_D A win → va_S A s.heap H locs → lv_has ls maxL (lv_args 0 av) → W p l e rm s m args below meth c H locs 0 0 Q (F0 m 0 ls [])) :
    Ct l y wsy rm D B adK adV tys av win wout rv := by
  refine va_MetF (cc := cc) (maxL := maxL) (ret := ret) hy hw ?_
  intro p e s m args below meth c s₁ Bd hml hv
  obtain ⟨ha, hP, hK, hD, hE⟩ := hv
  subst ha
  have hl := lv_entry av hlen
  rw [lg_entry_eq]
  exact k p e s m _ below meth c Bd.exec Bd.bytes Bd.returns hml (atoms_spec (ws := wsy) Bd.pre) (findClass_of_methodNamed Bd.named) Bd.notSynchronized (name_of_methodNamed Bd.named Bd.method).1 hK hE (vB win) _ rfl (fun q ⟨k, e, h⟩ => hD.2 k _ h) s.heap [] _ hP (vB_D hD) va_S.rf hl
end CTX
