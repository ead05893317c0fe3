/-! ===== contracts of constructors; the frame rule at whole contracts ===== -/
theorem tys_inj {D : va_G} {tys : List (ClassId × FieldType)} {s : State} {cA cT : ClassId} {ty : FieldType} (t0 : Nat) (hK : va_K D vwCl (tys ++ [(cA, ty)]) s) (ht : tys[t0]? = some (cT, ty)) : cA = cT := by
  have h1 := (hK.2 tys.length (cA, ty) (by simp)).2
  have h2 := (hK.2 t0 (cT, ty) (by rw [List.getElem?_append_left (List.getElem?_eq_some_iff.mp ht).1]; exact ht)).2
  cases ty with
  | object C =>
    obtain ⟨_, _, _, _, _, a⟩ := h1
    obtain ⟨_, _, _, _, _, b⟩ := h2
    exact Option.some.inj (a.symm.trans b)
  | _ =>
    exact Option.some.inj (Eq.trans (Eq.symm h1) h2)
theorem Ct.frame {l : Launch} {y : MethodName} {wsy : List Cond} {rm : Room} {D : va_G} {B : Nat} {adK adV : Nat → Nat} {tys : List (ClassId × FieldType)} {av : List Value} {win wout ws ws' : va_W} {rv : Option Value} (h : Ct l y wsy rm D B adK adV tys av win wout rv) (is : List Nat) (hn : va_nd is = true) (hC : is.map (fun i => ws[i]?) = win.map some) (hl : wout.map Prod.fst = win.map Prod.fst) (hws : vset ws is wout = ws') :
    Ct l y wsy rm D B adK adV tys av ws ws' rv := by
  have hs : is.filterMap (fun i => ws[i]?) = win := by
    have h1 : (is.map (fun i => ws[i]?)).filterMap id = win := by rw [hC]; simp
    rw [← h1]
    simp
  have hsub : ∀ q, vB win q → vB ws q := by
    intro q ⟨k, e, hk⟩
    have h1 : (is.map (fun i => ws[i]?))[k]? = some (some (q, e)) := by rw [hC, List.getElem?_map, hk]; rfl
    rw [List.getElem?_map] at h1
    cases hi : is[k]? with
    | none => rw [hi] at h1; cases h1
    | some i => rw [hi] at h1; exact ⟨i, e, Option.some.inj h1⟩
  intro p e ha hc hk s m args below hf happ hP hK
  obtain ⟨ha0, hP0, hK0, hD0, hE0⟩ := hP
  obtain ⟨n, o, h1, h2, h3, ⟨hv, hP1, hF⟩, L, hFE, hL⟩ := h p e ha hc hk s m args below hf happ ⟨ha0, hP0.sub is hs, hK0, hD0.sub is hn hC, hE0⟩ hK
  refine ⟨n, o, h1, h2, h3, ⟨hv, ?_, hF.1, fun q g1 g2 => hF.2 q g1 (fun z => g2 (hsub q z))⟩, L, hFE, fun q hq => hsub _ (hL q hq)⟩
  have := (vset_P hP0 (vB_D hD0) is hC hl hP1 (fun q g1 g2 => hF.2 q g1 g2)).1
  rw [hws] at this
  exact this
def QsN (D : va_G) (A : Nat → Prop) (wout : (Nat → Nat) → va_W) : Array Value → State → Outcome → State → Prop := fun _ st oc t => oc = .returned none ∧ (∃ ad : Nat → Nat, va_P D vwCl (wout ad) t.heap ∧ va_D A (wout ad)) ∧ va_F A st t
def AOs (U : State) : Prop := va_AO RX2 U ∧ va_AO RX3 U
theorem AOs.moved {u U : State} (hvm : u.vm.Alike U.vm) (h : AOs u) : AOs U := ⟨va_AO.moved hvm h.1, va_AO.moved hvm h.2⟩
def CtN (l : Launch) (y : MethodName) (ws : List Cond) (rm : Room) (D : va_G) (B : Nat) (adK adV : Nat → Nat) (tys : List (ClassId × FieldType)) (av : List Value) (win : va_W) (wout : (Nat → Nat) → va_W) (mc ms : Nat) : Prop :=
  ∀ sz : Nat, B ≤ sz → Met l y ws rm (va_Pc av (fun U => U.heap.size = sz ∧ AOs U ∧ Std D B adK adV tys win U)) (QsN D (va_A win sz) wout) mc ms (va_A win sz)
section CTN
variable {p : Program} {l : Launch} {e : Env} {R : Room} {s : State} {m : MethodId} {args : Array Value} {below : List Frame} {meth : Method} {c : Code} {H : Heap} {locs : List Loc} {cells slots : Nat} {Q : State → Prop}
variable {D : va_G} {B : Nat} {adK adV : Nat → Nat} {tys : List (ClassId × FieldType)} {ws ws' win wr : va_W} {wout : (Nat → Nat) → va_W} {A : Nat → Prop} {y : MethodName} {cc bytes : ByteArray} {wsy Ts : List Cond} {rm : Room} {maxL nL n index pc mc ms : Nat} {ret : Option FieldType} {own host : String} {b : Addr} {As rest st0 : List Value} {ls : Array Slot} {a : Array Value}
theorem CtN.ofW {wsy' : List Cond} {av : List Value} (hy : plainName y.cls = true) (hw : wsy = Cond.code y cc maxL ret :: wsy') (hlen : (lg_sl av).length ≤ maxL)
    (k : ∀ (p : Program) (e : Env) (s : State) (m : MethodId) (args : Array Value) (below : List Frame) (meth : Method) (c : Code), p.tables.exec = Jvm.exec → c.code = cc → meth.sig.returnType = ret → c.maxLocals = maxL → (∀ w ∈ wsy, w.before args s = true) → s.vm.findClass y.cls = some m.cls → meth.locks = false → meth.name = y.name → va_K D vwCl tys s → Ev B adK adV s s.heap → AOs s → ∀ (A : Nat → Prop) (Q : State → Prop), Q = MQ below (QsN D A wout) args s mc ms A → (∀ q, s.heap.size ≤ q → A q) → (∀ q, A q → B ≤ q) → B ≤ s.heap.size →
      ∀ (H : Heap) (locs : List Loc) (ls : Array Slot), va_P D vwCl win H → va_D A win → va_S A s.heap H locs → lv_has ls maxL (lv_args 0 av) → W p l e rm s m args below meth c H locs 0 0 Q (F0 m 0 ls [])) :
    CtN l y wsy rm D B adK adV tys av win wout mc ms := by
  intro sz hsz
  refine Met.ofW (cc := cc) (maxL := maxL) (ret := ret) hy hw ?_
  intro p e s m args below meth c s₁ Bd hml hv
  obtain ⟨ha, hz, hO, hP, hK, hD, hE⟩ := hv
  subst ha
  subst hz
  have hl := lv_entry av hlen
  rw [lg_entry_eq]
  exact k p e s m _ below meth c Bd.exec Bd.bytes Bd.returns hml (atoms_spec (ws := wsy) Bd.pre) (findClass_of_methodNamed Bd.named) Bd.notSynchronized (name_of_methodNamed Bd.named Bd.method).1 hK hE hO (va_A win s.heap.size) _ rfl (fun q h => Or.inr h) (fun q h => by
    rcases h with ⟨k, e, h⟩ | h
    · exact hD.2 k _ h
    · exact Nat.le_trans hsz h) hsz s.heap [] _ hP hD.self va_S.rf hl
theorem StdN.blind {av : List Value} {sz : Nat} : FrameBlind (va_Pc av (fun U => U.heap.size = sz ∧ AOs U ∧ Std D B adK adV tys win U)) :=
  fun a U g mk q => by
    obtain ⟨q0, qz, qo, q1, q2, q3, q4⟩ := q
    exact ⟨q0, qz, AOs.moved (u := U) (U := U.calling g mk a) (Vm.Alike.refl U.vm) qo, q1, va_K.moved (u := U) (U := U.calling g mk a) (Vm.Alike.refl U.vm) q2, q3, q4.same rfl⟩
/-- behind a constructor's call -/
theorem xcNE (hr : va_Run p l e R s m args below meth c H locs cells slots mc ms (F0 m pc ls st0) rest (QsN D (va_A win H.size) wout a) (va_A win H.size)) (hP : va_P D vwCl ws H) (hD : va_D A ws) (hS : va_S A s.heap H locs) (hA : ∀ q, s.heap.size ≤ q → A q) (is isR : List Nat) (hC : is.map (fun i => ws[i]?) = win.map some) (hR : isR.map (fun i => ws[i]?) = wr.map some) (hn : va_nd isR = true) (hdis : ∀ i ∈ isR, i ∉ is)
    (kk : ∀ (ad : Nat → Nat) (H1 : Heap) (locs1 : List Loc), va_P D vwCl (wr ++ wout ad) H1 → va_D A (wr ++ wout ad) → va_S A s.heap H1 locs1 → W p l e R s m args below meth c H1 locs1 (cells + mc) (slots + ms) Q (F0 m (pc + 3) ls rest)) : W p l e R s m args below meth c H locs cells slots Q (F0 m pc ls st0) := by
  intro T hT X
  obtain ⟨v, st₀, t, T', L, h0, X', hL, e1, e2, ⟨hv, ⟨ad, hP1, hD1⟩, hz, hk⟩, st⟩ := hr T hT X
  cases hv
  rw [h0] at hz hk
  have hfree : ∀ q, va_A win H.size q → A q := va_free hD hS hA is hC
  obtain ⟨g1, g2⟩ := va_join (H1 := T'.heap) hP hD is isR hC hR hn hdis (fun q h1 h2 => by rw [e1]; exact hk q h1 h2) hfree (by rw [e1]; exact hP1) hD1
  obtain ⟨t2, a1, b1⟩ := kk ad T'.heap (locs ++ L) g1 g2
    ⟨Nat.le_trans hS.1 (by rw [e1]; exact hz), fun q h1 h2 => by rw [e1, hk q (Nat.lt_of_lt_of_le h1 hS.1) (fun z => h2 (hfree q z))]; exact hS.2.1 q h1 h2, fun q hq => by
      rcases List.mem_append.mp hq with h | h
      · exact hS.2.2 q h
      · exact hfree _ (hL q h)⟩ T' rfl X'
  exact ⟨t2, st t2 a1, b1⟩
theorem StdN.at (hK : va_K D vwCl tys s) (hP : va_P D vwCl ws H) (hD : va_D A ws) (hS : va_S A s.heap H locs) (hAB : ∀ q, A q → B ≤ q) (hE : Ev B adK adV s s.heap) (hO : AOs s) (is : List Nat) (hn : va_nd is = true) (hC : is.map (fun i => ws[i]?) = win.map some) :
    ∀ U : State, U.heap = H → s.WarmedH U.vm → U.heap.size = H.size ∧ AOs U ∧ Std D B adK adV tys win U := fun U hU hW => ⟨by rw [hU], hO.moved hW.alike, Std.at hK hP hD hS hAB hE is hn hC U hU hW⟩
/-- a call of a constructor of a class, or of a nest mate's -/
theorem xcN (S : CallFix p m c cc nL s args Ts own) (hM : CtN l y wsy rm D B adK adV tys (.ref b :: As) win wout mc ms) (cw : CallB R s args own index y bytes maxL none wsy rm mc ms n ∧ y.name = "<init>" ∧ (Cond.instanceMethod y).before args s = true)
    (hK : va_K D vwCl tys s) (hP : va_P D vwCl ws H) (hD : va_D A ws) (hS : va_S A s.heap H locs) (hA : ∀ q, s.heap.size ≤ q → A q) (hAB : ∀ q, A q → B ≤ q) (hBz : B ≤ s.heap.size) (hE : Ev B adK adV s s.heap) (hO : AOs s) (is isR : List Nat) (hnd : va_nd is = true) (hC : is.map (fun i => ws[i]?) = win.map some) (hR : isR.map (fun i => ws[i]?) = wr.map some) (hn : va_nd isR = true) (hdis : ∀ i ∈ isR, i ∉ is)
    (hAs : As.length = n) (hsz : ls.size = nL) (hst : st0 = As.reverse ++ .ref b :: rest) (hr8 : (rest.map fun v => v.category).sum ≤ 8) (hdg : decode cc pc = .ok (.invokespecial index, 3)) (hf : cells + mc ≤ R.cells ∧ slots + ms ≤ R.slots)
    (kk : ∀ (ad : Nat → Nat) (H1 : Heap) (locs1 : List Loc), va_P D vwCl (wr ++ wout ad) H1 → va_D A (wr ++ wout ad) → va_S A s.heap H1 locs1 → W p l e R s m args below meth c H1 locs1 (cells + mc) (slots + ms) Q (F0 m (pc + 3) ls rest)) : W p l e R s m args below meth c H locs cells slots Q (F0 m pc ls st0) :=
  xcNE (va_runI (rest := rest) S (hM H.size (Nat.le_trans hBz hS.1)) cw ⟨StdN.blind, fun U hU hW => ⟨rfl, StdN.at hK hP hD hS hAB hE hO is hnd hC U hU hW⟩⟩ rfl hAs hsz hst (lv_room hr8) hdg hf) hP hD hS hA is isR hC hR hn hdis kk
theorem xcNN (S : CallFix p m c cc nL s args Ts own) (hM : CtN l y wsy rm D B adK adV tys (.ref b :: As) win wout mc ms) (cw : va_CN R s args own index y host bytes maxL none wsy rm mc ms n ∧ y.name = "<init>" ∧ (Cond.instanceMethod y).before args s = true)
    (hK : va_K D vwCl tys s) (hP : va_P D vwCl ws H) (hD : va_D A ws) (hS : va_S A s.heap H locs) (hA : ∀ q, s.heap.size ≤ q → A q) (hAB : ∀ q, A q → B ≤ q) (hBz : B ≤ s.heap.size) (hE : Ev B adK adV s s.heap) (hO : AOs s) (is isR : List Nat) (hnd : va_nd is = true) (hC : is.map (fun i => ws[i]?) = win.map some) (hR : isR.map (fun i => ws[i]?) = wr.map some) (hn : va_nd isR = true) (hdis : ∀ i ∈ isR, i ∉ is)
    (hAs : As.length = n) (hsz : ls.size = nL) (hst : st0 = As.reverse ++ .ref b :: rest) (hr8 : (rest.map fun v => v.category).sum ≤ 8) (hdg : decode cc pc = .ok (.invokespecial index, 3)) (hf : cells + mc ≤ R.cells ∧ slots + ms ≤ R.slots)
    (kk : ∀ (ad : Nat → Nat) (H1 : Heap) (locs1 : List Loc), va_P D vwCl (wr ++ wout ad) H1 → va_D A (wr ++ wout ad) → va_S A s.heap H1 locs1 → W p l e R s m args below meth c H1 locs1 (cells + mc) (slots + ms) Q (F0 m (pc + 3) ls rest)) : W p l e R s m args below meth c H locs cells slots Q (F0 m pc ls st0) :=
  xcNE (va_runIN (rest := rest) S (hM H.size (Nat.le_trans hBz hS.1)) cw ⟨StdN.blind, fun U hU hW => ⟨rfl, StdN.at hK hP hD hS hAB hE hO is hnd hC U hU hW⟩⟩ rfl hAs hsz hst (lv_room hr8) hdg hf) hP hD hS hA is isR hC hR hn hdis kk
end CTN
