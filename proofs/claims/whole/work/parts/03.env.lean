def nwF : List (String × Nat × String × String × String × String) := [("MotionStates", 58, "MotionStates$Text", "letters", "[C", "MotionStates"), ("MotionStates", 54, "MotionStates$Text", "length", "I", "MotionStates"), ("MotionStates", 73, "MotionStates$Text", "clauses", "I", "MotionStates"), ("MotionStates$Text", 78, "MotionStates$Figure", "states", "I", "MotionStates"), ("MotionStates", 110, "MotionStates$Figure", "states", "I", "MotionStates"), ("MotionStates$Layer", 103, "MotionStates$Figure", "states", "I", "MotionStates"), ("MotionStates$Text", 87, "MotionStates$Figure", "values", "[I", "MotionStates"), ("MotionStates", 83, "MotionStates$Figure", "values", "[I", "MotionStates"), ("MotionStates$Layer", 106, "MotionStates$Figure", "values", "[I", "MotionStates"), ("MotionStates$Text", 96, "MotionStates$Figure", "ways", "I", "MotionStates"), ("MotionStates$Layer", 65, "MotionStates$Figure", "ways", "I", "MotionStates"), ("MotionStates", 87, "MotionStates$Figure", "ways", "I", "MotionStates"), ("MotionStates$Text", 125, "MotionStates$Figure", "mask", "I", "MotionStates"), ("MotionStates", 224, "MotionStates$Figure", "mask", "I", "MotionStates"), ("MotionStates$Text", 127, "MotionStates$Figure", "weight", "I", "MotionStates"), ("MotionStates", 227, "MotionStates$Figure", "weight", "I", "MotionStates"), ("MotionStates", 120, "MotionStates$Layer", "state", "I", "MotionStates"), ("MotionStates", 151, "MotionStates$Layer", "shares", "[F", "MotionStates"), ("MotionStates", 116, "MotionStates$Motion", "lower", "LMotionStates$Layer;", "MotionStates"), ("MotionStates", 250, "MotionStates$Motion", "upper", "LMotionStates$Layer;", "MotionStates"), ("MotionStates", 94, "MotionStates$Motion", "numbers", "[I", "MotionStates"), ("MotionStates$Layer", 89, "MotionStates$Motion", "numbers", "[I", "MotionStates"), ("MotionStates", 221, "MotionStates$Motion", "triggers", "I", "MotionStates"), ("MotionStates", 202, "MotionStates$Shelf", "isMissing", "Z", "MotionStates"), ("MotionStates", 209, "MotionStates$Shelf", "places", "I", "MotionStates"), ("MotionStates", 196, "MotionStates$Shelf", "marks", "[I", "MotionStates")]
def nwM : List (String × Nat × MethodName × String) := [("MotionStates", 9, ⟨"MotionStates$Text", "<init>", "()V"⟩, "MotionStates"), ("MotionStates", 18, ⟨"MotionStates$Figure", "<init>", "()V"⟩, "MotionStates"), ("MotionStates", 28, ⟨"MotionStates$Motion", "<init>", "()V"⟩, "MotionStates"), ("MotionStates", 53, ⟨"MotionStates$Shelf", "<init>", "()V"⟩, "MotionStates")]
def kx_i : List Nat := [44, 55, 60, 117, 119, 121, 123, 68, 73]
def kx_t : List String := ["figure", "state", "way", "after", "over", "under", "trigger", "breaking", "mask"]
def kx_len : List Nat := [6, 5, 3, 5, 4, 5, 7, 8, 4]
def kx_byt : List (List Int32) := [[102, 105, 103, 117, 114, 101], [115, 116, 97, 116, 101], [119, 97, 121], [97, 102, 116, 101, 114], [111, 118, 101, 114], [117, 110, 100, 101, 114], [116, 114, 105, 103, 103, 101, 114], [98, 114, 101, 97, 107, 105, 110, 103], [109, 97, 115, 107]]
/-! ===== the environment of every method: nest words, text constants, statics ===== -/
def Ev (B : Nat) (adK adV : Nat → Nat) (U : State) (H : Heap) : Prop :=
  (∀ q ∈ nwF, va_Nw (.fieldLinkNest q.1 q.2.1 q.2.2.1 q.2.2.2.1 q.2.2.2.2.1 q.2.2.2.2.2) U) ∧
  (∀ q ∈ nwM, va_Nw (.methodLinkNest q.1 q.2.1 q.2.2.1 q.2.2.2) U) ∧
  (∀ i : Nat, i < 9 → vk_R RX4 (kx_i.getD i 0) (kx_t.getD i "") (adK i) U) ∧
  vk_S 9 kx_len kx_byt adK adV (fun q => B ≤ q) U H ∧
  va_Z "java/lang/String" "COMPACT_STRINGS" "Z" (.int 1) (fun q => B ≤ q) U H ∧
  va_Zq "jdk/internal/util/Preconditions" "SIOOBE_FORMATTER" "Ljava/util/function/BiFunction;" (fun q => B ≤ q) U H
theorem Ev.warm {B : Nat} {adK adV : Nat → Nat} {s U : State} {H : Heap} (h : Ev B adK adV s H) (hW : s.WarmedH U.vm) : Ev B adK adV U H :=
  ⟨fun q hq => va_Nw.warmF hW (h.1 q hq), fun q hq => va_Nw.warmM hW (h.2.1 q hq), fun i hi => vk_R.warm hW (h.2.2.1 i hi), vk_S.moved hW.alike h.2.2.2.1, va_Z.moved hW.alike h.2.2.2.2.1, va_Zq.moved hW.alike h.2.2.2.2.2⟩
theorem Ev.same {B : Nat} {adK adV : Nat → Nat} {s U : State} {H : Heap} (h : Ev B adK adV s H) (hv : s.vm = U.vm) : Ev B adK adV U H := by
  have ha : s.vm.Alike U.vm := by rw [hv]; exact Vm.Alike.refl _
  exact ⟨fun q hq => va_Nw.same rfl hv (h.1 q hq), fun q hq => va_Nw.same rfl hv (h.2.1 q hq), fun i hi => vk_R.same hv.symm (h.2.2.1 i hi), vk_S.moved ha h.2.2.2.1, va_Z.moved ha h.2.2.2.2.1, va_Zq.moved ha h.2.2.2.2.2⟩
theorem Ev.kept {B : Nat} {adK adV : Nat → Nat} {U : State} {H H1 : Heap} (h : Ev B adK adV U H) (hq : ∀ a : Nat, a < H.size → ¬ B ≤ a → H1[a]? = H[a]?) : Ev B adK adV U H1 :=
  ⟨h.1, h.2.1, h.2.2.1, h.2.2.2.1.kept hq, h.2.2.2.2.1.kept hq, h.2.2.2.2.2.kept hq⟩
/-! ===== the frame of a method that makes nothing: its own cells ===== -/
def vB (ws : va_W) : Nat → Prop := fun q => ∃ (k : Nat) (e : va_E), ws[k]? = some (q, e)
theorem vB_D {A : Nat → Prop} {ws : va_W} (h : va_D A ws) : va_D (vB ws) ws := ⟨h.1, fun k q hk => ⟨k, q.2, hk⟩⟩
def vset : va_W → List Nat → va_W → va_W
  | ws, i :: is, q :: qs => vset (ws.set i q) is qs
  | ws, _, _ => ws
theorem vset_get : ∀ (is : List Nat) (qs ws : va_W) (k : Nat) (q : Nat × va_E), is.length = qs.length → (vset ws is qs)[k]? = some q → q ∈ qs ∨ (ws[k]? = some q ∧ k ∉ is) := by
  intro is
  induction is with
  | nil => intro qs ws k q hl h; exact Or.inr ⟨by cases qs <;> exact h, List.not_mem_nil⟩
  | cons i is ih =>
    intro qs ws k q hl h
    cases qs with
    | nil => simp at hl
    | cons q0 qs =>
      rcases ih qs (ws.set i q0) k q (by simpa using hl) h with h1 | ⟨h1, h2⟩
      · exact Or.inl (List.mem_cons_of_mem _ h1)
      · by_cases hk : k = i
        · subst hk
          by_cases hlt : k < ws.length
          · rw [List.getElem?_set_self hlt] at h1
            cases h1
            exact Or.inl List.mem_cons_self
          · rw [List.getElem?_eq_none (by simpa using hlt)] at h1
            cases h1
        · rw [List.getElem?_set_ne (Ne.symm hk)] at h1
          exact Or.inr ⟨h1, by simp [hk, h2]⟩
theorem vset_fst : ∀ (is : List Nat) (qs ws : va_W), is.map (fun i => (ws[i]?).map Prod.fst) = qs.map (fun q => some q.1) → (vset ws is qs).map Prod.fst = ws.map Prod.fst := by
  intro is
  induction is with
  | nil => intro qs ws _; cases qs <;> rfl
  | cons i is ih =>
    intro qs ws h
    cases qs with
    | nil => rfl
    | cons q0 qs =>
      simp only [List.map_cons, List.cons.injEq] at h
      obtain ⟨h0, h1⟩ := h
      have e : (ws.set i q0).map Prod.fst = ws.map Prod.fst := by
        rw [List.map_set]
        apply List.ext_getElem?
        intro k
        by_cases hk : k = i
        · subst hk
          cases hw : ws[k]? with
          | none => rw [hw] at h0; cases h0
          | some w =>
            rw [hw] at h0
            have hlt := (List.getElem?_eq_some_iff.mp hw).1
            rw [List.getElem?_set_self (by simpa using hlt), List.getElem?_map, hw]
            simp at h0
            simp [h0]
        · rw [List.getElem?_set_ne (Ne.symm hk)]
      rw [← e]
      refine ih qs (ws.set i q0) ?_
      rw [← h1]
      apply List.map_congr_left
      intro j _
      have := congrArg (fun l => l[j]?) e
      simpa only [List.getElem?_map] using this
theorem va_D_fst {A : Nat → Prop} {ws ws' : va_W} (h : va_D A ws) (e : ws'.map Prod.fst = ws.map Prod.fst) : va_D A ws' := by
  have key : ∀ (k : Nat) (q : Nat × va_E), ws'[k]? = some q → ∃ q0, ws[k]? = some q0 ∧ q0.1 = q.1 := by
    intro k q hk
    have h1 := congrArg (fun l => l[k]?) e
    simp only [List.getElem?_map, hk, Option.map_some] at h1
    cases hw : ws[k]? with
    | none => rw [hw] at h1; cases h1
    | some w => rw [hw] at h1; simp at h1; exact ⟨w, rfl, h1.symm⟩
  refine ⟨fun i j p q hi hj hpq => ?_, fun k q hk => ?_⟩
  · obtain ⟨p0, a1, a2⟩ := key i p hi
    obtain ⟨q0, b1, b2⟩ := key j q hj
    exact h.1 i j p0 q0 a1 b1 (by rw [a2, b2]; exact hpq)
  · obtain ⟨q0, b1, b2⟩ := key k q hk
    rw [← b2]
    exact h.2 k q0 b1
theorem vset_P {D : va_G} {cl : List vw_C} {A : Nat → Prop} {ws win wout : va_W} {H H1 : Heap} (hP : va_P D cl ws H) (hD : va_D A ws) (is : List Nat) (hC : is.map (fun i => ws[i]?) = win.map some) (hl : wout.map Prod.fst = win.map Prod.fst) (hP1 : va_P D cl wout H1) (hk : ∀ q : Nat, q < H.size → ¬ vB win q → H1[q]? = H[q]?) :
    va_P D cl (vset ws is wout) H1 ∧ va_D A (vset ws is wout) := by
  have hlen : is.length = wout.length := by
    have a := congrArg List.length hC
    have b := congrArg List.length hl
    simp at a b
    omega
  have at' : ∀ (k : Nat) (q : Nat × va_E), win[k]? = some q → ∃ i, is[k]? = some i ∧ ws[i]? = some q := by
    intro k q hq
    have h1 : (is.map (fun i => ws[i]?))[k]? = some (some q) := by rw [hC, List.getElem?_map, hq]; rfl
    rw [List.getElem?_map] at h1
    cases hi : is[k]? with
    | none => rw [hi] at h1; cases h1
    | some i => rw [hi] at h1; exact ⟨i, rfl, Option.some.inj h1⟩
  refine ⟨fun k q h => ?_, va_D_fst hD (vset_fst is wout ws ?_)⟩
  · rcases vset_get is wout ws k q hlen h with h1 | ⟨h1, h2⟩
    · obtain ⟨j, hj⟩ := List.getElem?_of_mem h1
      exact hP1 j q hj
    · refine (hP k q h1).kept (hk q.1 (hP k q h1).lt (fun ⟨j, e, hj⟩ => ?_))
      obtain ⟨i, hi1, hi2⟩ := at' j (q.1, e) hj
      have := hD.1 k i q (q.1, e) h1 hi2 rfl
      subst this
      exact h2 (List.mem_of_getElem? hi1)
  · have h1 := congrArg (List.map (Option.map Prod.fst)) hC
    simp only [List.map_map] at h1
    have h2 : List.map (fun q : Nat × va_E => some q.1) wout = List.map some (wout.map Prod.fst) := by simp
    rw [h2, hl]
    have h3 : (Option.map Prod.fst ∘ fun i : Nat => ws[i]?) = fun i : Nat => (ws[i]?).map Prod.fst := rfl
    rw [h3] at h1
    rw [h1]
    simp
/-! ===== contracts of one form: the cells win become wout, the answer is rv ===== -/
abbrev tysX (cC cF cI cZ cM cS : ClassId) : List (ClassId × FieldType) := [(cC, .char), (cF, .float), (cI, .int), (cZ, .boolean), (cM, .object "MotionStates$Motion"), (cS, .object "MotionStates$Shelf")]
def Std (D : va_G) (B : Nat) (adK adV : Nat → Nat) (tys : List (ClassId × FieldType)) (win : va_W) (U : State) : Prop :=
  va_P D vwCl win U.heap ∧ va_K D vwCl tys U ∧ va_D (fun q => B ≤ q) win ∧ Ev B adK adV U U.heap
theorem Std.blind {D : va_G} {B : Nat} {adK adV : Nat → Nat} {tys : List (ClassId × FieldType)} {win : va_W} {av : List Value} : FrameBlind (va_Pc av (Std D B adK adV tys win)) :=
  fun a U g mk q => by
    obtain ⟨q0, q1, q2, q3, q4⟩ := q
    exact ⟨q0, q1, va_K.moved (u := U) (U := U.calling g mk a) (Vm.Alike.refl U.vm) q2, q3, q4.same rfl⟩
def Qs (rv : Option Value) (D : va_G) (A : Nat → Prop) (wout : va_W) : Array Value → State → Outcome → State → Prop := fun _ st oc t => oc = .returned rv ∧ va_P D vwCl wout t.heap ∧ va_F A st t
def Ct (l : Launch) (y : MethodName) (ws : List Cond) (rm : Room) (D : va_G) (B : Nat) (adK adV : Nat → Nat) (tys : List (ClassId × FieldType)) (av : List Value) (win wout : va_W) (rv : Option Value) : Prop :=
  Met l y ws rm (va_Pc av (Std D B adK adV tys win)) (Qs rv D (vB win) wout) 0 0 (vB win)
section CTX
variable {p : Program} {l : Launch} {e : Env} {R : Room} {s : State} {m : MethodId} {args : Array Value} {below : List Frame} {meth : Method} {c : Code} {H : Heap} {locs : List Loc} {cells slots : Nat} {Q : State → Prop}
variable {D : va_G} {B : Nat} {adK adV : Nat → Nat} {tys : List (ClassId × FieldType)} {ws ws' win wout : va_W} {A : Nat → Prop} {y : MethodName} {cc bytes : ByteArray} {wsy Ts : List Cond} {rm : Room} {maxL nL n index pc : Nat} {ret : Option FieldType} {own C : String} {b : Addr} {As rest st0 : List Value} {ls : Array Slot} {rv : Option Value} {a : Array Value}
theorem Ct.ofW {wsy' : List Cond} {av : List Value} (hy : plainName y.cls = true) (hw : wsy = Cond.code y cc maxL ret :: wsy') (hlen : (lg_sl av).length ≤ maxL)
    (k : ∀ (p : Program) (e : Env) (s : State) (m : MethodId) (args : Array Value) (below : List Frame) (meth : Method) (c : Code), p.tables.exec = Jvm.exec → c.code = cc → meth.sig.returnType = ret → c.maxLocals = maxL → (∀ w ∈ wsy, w.before args s = true) → s.vm.findClass y.cls = some m.cls → meth.locks = false → meth.name = y.name → va_K D vwCl tys s → Ev B adK adV s s.heap → ∀ (A : Nat → Prop) (Q : State → Prop), Q = MQ below (Qs rv D A wout) args s 0 0 A → (∀ q, A q → B ≤ q) →
      ∀ (H : Heap) (locs : List Loc) (ls : Array Slot), va_P D vwCl win H → va_D A win → va_S A s.heap H locs → lv_has ls maxL (lv_args 0 av) → W p l e rm s m args below meth c H locs 0 0 Q (F0 m 0 ls [])) :
    Ct l y wsy rm D B adK adV tys av win wout rv := by
  refine Met.ofW (cc := cc) (maxL := maxL) (ret := ret) hy hw ?_
  intro p e s m args below meth c s₁ Bd hml hv
  obtain ⟨ha, hP, hK, hD, hE⟩ := hv
  subst ha
  have hl := lv_entry av hlen
  rw [lg_entry_eq]
  exact k p e s m _ below meth c Bd.exec Bd.bytes Bd.returns hml (atoms_spec (ws := wsy) Bd.pre) (findClass_of_methodNamed Bd.named) Bd.notSynchronized (name_of_methodNamed Bd.named Bd.method).1 hK hE (vB win) _ rfl (fun q ⟨k, e, h⟩ => hD.2 k _ h) s.heap [] _ hP (vB_D hD) va_S.rf hl
/-- what a call needs of the state -/
theorem Std.at (hK : va_K D vwCl tys s) (hP : va_P D vwCl ws H) (hD : va_D A ws) (hS : va_S A s.heap H locs) (hAB : ∀ q, A q → B ≤ q) (hE : Ev B adK adV s s.heap) (is : List Nat) (hn : va_nd is = true) (hC : is.map (fun i => ws[i]?) = win.map some) :
    ∀ U : State, U.heap = H → s.WarmedH U.vm → Std D B adK adV tys win U := by
  intro U hU hW
  have hs : is.filterMap (fun i => ws[i]?) = win := by
    have h1 : (is.map (fun i => ws[i]?)).filterMap id = win := by rw [hC]; simp
    rw [← h1]
    simp
  refine ⟨by rw [hU]; exact hP.sub is hs, va_K.moved hW.alike hK, (hD.sub is hn hC).weaken (fun k q _ h => hAB _ h), ?_⟩
  rw [hU]
  refine (hE.kept (fun a h1 h2 => hS.2.1 a h1 (fun h => h2 (hAB a h)))).warm hW
theorem xcE (hr : va_Run p l e R s m args below meth c H locs cells slots 0 0 (F0 m pc ls st0) rest (Qs rv D (vB win) wout a) (vB win)) (hP : va_P D vwCl ws H) (hD : va_D A ws) (hS : va_S A s.heap H locs) (is : List Nat) (hC : is.map (fun i => ws[i]?) = win.map some) (hl : wout.map Prod.fst = win.map Prod.fst) (hws : vset ws is wout = ws')
    (kk : ∀ (H1 : Heap) (locs1 : List Loc), va_P D vwCl ws' H1 → va_D A ws' → va_S A s.heap H1 locs1 → W p l e R s m args below meth c H1 locs1 cells slots Q (F0 m (pc + 3) ls (rv.toList ++ rest))) : W p l e R s m args below meth c H locs cells slots Q (F0 m pc ls st0) := by
  intro T hT X
  obtain ⟨v, st₀, t, T', L, h0, X', hL, e1, e2, ⟨hv, hP1, hz, hk⟩, st⟩ := hr T hT X
  cases hv
  rw [h0] at hz hk
  have hfree : ∀ q, vB win q → A q := by
    intro q ⟨k, e, h⟩
    have h1 : (is.map (fun i => ws[i]?))[k]? = some (some (q, e)) := by rw [hC, List.getElem?_map, h]; rfl
    rw [List.getElem?_map] at h1
    cases hi : is[k]? with
    | none => rw [hi] at h1; cases h1
    | some i => rw [hi] at h1; exact hD.2 i (q, e) (Option.some.inj h1)
  obtain ⟨g1, g2⟩ := vset_P (H1 := T'.heap) hP hD is hC hl (by rw [e1]; exact hP1) (fun q h1 h2 => by rw [e1]; exact hk q h1 h2)
  rw [hws] at g1 g2
  obtain ⟨t2, a1, b1⟩ := kk T'.heap (locs ++ L) g1 g2
    ⟨Nat.le_trans hS.1 (by rw [e1]; exact hz), fun q h1 h2 => by rw [e1, hk q (Nat.lt_of_lt_of_le h1 hS.1) (fun z => h2 (hfree q z))]; exact hS.2.1 q h1 h2, fun q hq => by
      rcases List.mem_append.mp hq with h | h
      · exact hS.2.2 q h
      · exact hfree _ (hL q h)⟩ T' rfl X'
  exact ⟨t2, st t2 a1, b1⟩
/-- a call of an instance method -/
theorem xcV (S : CallFix p m c cc nL s args Ts own) (hM : Ct l y wsy rm D B adK adV tys (.ref b :: As) win wout rv) (cw : CallW R s args own C index y bytes maxL ret wsy rm 0 0 n) (hrecv : ∃ cellB : Cell, H[b]? = some cellB ∧ cellB.vm.isStatics = false ∧ s.vm.findClass C = some cellB.cls)
    (hK : va_K D vwCl tys s) (hP : va_P D vwCl ws H) (hD : va_D A ws) (hS : va_S A s.heap H locs) (hAB : ∀ q, A q → B ≤ q) (hE : Ev B adK adV s s.heap) (is : List Nat) (hn : va_nd is = true) (hC : is.map (fun i => ws[i]?) = win.map some) (hl : wout.map Prod.fst = win.map Prod.fst) (hws : vset ws is wout = ws')
    (hAs : As.length = n) (hsz : ls.size = nL) (hst : st0 = As.reverse ++ .ref b :: rest) (hr8 : (rest.map fun v => v.category).sum ≤ 8) (hdg : decode cc pc = .ok (.invokevirtual index, 3)) (hf : cells + 0 ≤ R.cells ∧ slots + 0 ≤ R.slots)
    (kk : ∀ (H1 : Heap) (locs1 : List Loc), va_P D vwCl ws' H1 → va_D A ws' → va_S A s.heap H1 locs1 → W p l e R s m args below meth c H1 locs1 cells slots Q (F0 m (pc + 3) ls (rv.toList ++ rest))) : W p l e R s m args below meth c H locs cells slots Q (F0 m pc ls st0) :=
  xcE (va_runV (rest := rest) S hM cw ⟨Std.blind, hrecv, fun U hU hW => ⟨rfl, Std.at hK hP hD hS hAB hE is hn hC U hU hW⟩⟩ rfl hAs hsz hst (lv_room hr8) hdg hf) hP hD hS is hC hl hws kk
/-- a call of a static method -/
theorem xcS (S : CallFix p m c cc nL s args Ts own) (hM : Ct l y wsy rm D B adK adV tys As win wout rv) (cw : CallB R s args own index y bytes maxL ret wsy rm 0 0 n ∧ (Cond.static y).before args s = true)
    (hK : va_K D vwCl tys s) (hP : va_P D vwCl ws H) (hD : va_D A ws) (hS : va_S A s.heap H locs) (hAB : ∀ q, A q → B ≤ q) (hE : Ev B adK adV s s.heap) (is : List Nat) (hn : va_nd is = true) (hC : is.map (fun i => ws[i]?) = win.map some) (hl : wout.map Prod.fst = win.map Prod.fst) (hws : vset ws is wout = ws')
    (hAs : As.length = n) (hsz : ls.size = nL) (hst : st0 = As.reverse ++ rest) (hr8 : (rest.map fun v => v.category).sum ≤ 8) (hdg : decode cc pc = .ok (.invokestatic index, 3)) (hf : cells + 0 ≤ R.cells ∧ slots + 0 ≤ R.slots)
    (kk : ∀ (H1 : Heap) (locs1 : List Loc), va_P D vwCl ws' H1 → va_D A ws' → va_S A s.heap H1 locs1 → W p l e R s m args below meth c H1 locs1 cells slots Q (F0 m (pc + 3) ls (rv.toList ++ rest))) : W p l e R s m args below meth c H locs cells slots Q (F0 m pc ls st0) :=
  xcE (va_runS (rest := rest) S hM cw ⟨Std.blind, fun U hU hW => ⟨rfl, Std.at hK hP hD hS hAB hE is hn hC U hU hW⟩⟩ rfl hAs hsz hst (lv_room hr8) hdg hf) hP hD hS is hC hl hws kk
/-- the end of a method -/
theorem qEnd {t : State} (hP : va_P D vwCl wout H) (hS : va_S A s.heap H locs) (ht : t.heap = H) : Qs rv D A wout a s (.returned rv) t := ⟨rfl, by rw [ht]; exact hP, hS.F ht⟩
end CTX
/-! ===== a step of a function that may be stuck ===== -/
def gd {α : Type} (c : Prop) [Decidable c] (k : Option α) : Option α := if c then k else none
theorem gd_inv {α : Type} {c : Prop} [Decidable c] {k : Option α} {r : α} (h : gd c k = some r) : c ∧ k = some r := by
  unfold gd at h
  by_cases hc : c
  · rw [if_pos hc] at h; exact ⟨hc, h⟩
  · rw [if_neg hc] at h; cases h
theorem gd_t {α : Type} {c : Prop} [Decidable c] {k : Option α} (hc : c) : gd c k = k := if_pos hc
theorem bd_inv {α β : Type} {x : Option α} {f : α → Option β} {r : β} (h : x.bind f = some r) : ∃ a, x = some a ∧ f a = some r := by
  cases x with
  | none => cases h
  | some a => exact ⟨a, rfl, h⟩
theorem if_p {α : Type} {c : Prop} [Decidable c] {a b r : α} (hc : c) (h : (if c then a else b) = r) : a = r := by rw [if_pos hc] at h; exact h
theorem if_n {α : Type} {c : Prop} [Decidable c] {a b r : α} (hc : ¬ c) (h : (if c then a else b) = r) : b = r := by rw [if_neg hc] at h; exact h
abbrev iok (i : Int32) (n : Nat) : Prop := ¬ (i < 0 ∨ n ≤ i.toNatClampNeg)
abbrev fok (r : UInt32) : Prop := r &&& 0x7fffffff ≤ 0x7f800000
abbrev dok (r : UInt64) : Prop := r &&& 0x7fffffffffffffff ≤ 0x7ff0000000000000
abbrev zok (r : Int32) : Prop := r = 0 ∨ r = 1
theorem zok_n {r : Int32} (h : zok r) : narrow .boolean (.int r) = .int r := by rcases h with h | h <;> subst h <;> rfl
theorem sw_in {x k : Int32} (h : x = k) {a : Int} (hk : k.toInt = a) : x.toInt = a := by rw [h]; exact hk
theorem zok_f {r : Int32} (h : zok r) : Jvm.fits .boolean (.int r) = true := by rcases h with h | h <;> subst h <;> rfl
abbrev cok (r : Int32) : Prop := (r.toUInt32 % 65536).toInt32 = r
theorem cok_n {r : Int32} (h : cok r) : narrow .char (.int r) = .int r := by
  have h2 : (r.toUInt32 % 65536).toInt32 = r := h
  rw [← h2]
  exact pk_nc r
section LDCW
variable {p : Program} {l : Launch} {e : Env} {R : Room} {s : State} {m : MethodId} {args : Array Value} {below : List Frame} {meth : Method} {c : Code} {H : Heap} {locs : List Loc} {cells slots : Nat} {Q : State → Prop} {cc : ByteArray} {pc : Nat} {ls : Array Slot} {rest : List Value}
theorem xldcwF {T : State} (X : Stand p l e R s m args below meth c T locs cells slots) (hexec : p.tables.exec = Jvm.exec) {own : String} {index : Nat} {b : UInt32} (hown : s.vm.findClass own = some m.cls)
    (hconst : (Cond.constantFloat own index b).before args s = true) {g : JFrame} (hg : g.method = m) (hdg : decode c.code g.pc = .ok (.ldc_w index, 3)) :
    ∀ target, Steps p.tables e below (T.setTop { g with pc := g.pc + 3, stack := .float b :: g.stack }) target → Steps p.tables e below (T.setTop g) target := by
  obtain ⟨k, cf, hk, hcf, hcp⟩ := Cond.constantFloat_spec hown hconst
  obtain ⟨k', hk', he⟩ := X.warmed.alike.2.2 _ _ hk
  intro target hrest
  subst hg
  jvm_step X.here [hexec, hdg, ldc_w.wp_float (s := T) (f := g) X.here.top hk' (by rw [he]; exact hcf) hcp]
  exact hrest
theorem lv_ldcfw (hexec : p.tables.exec = Jvm.exec) (hb : c.code = cc) {own : String} {index : Nat} {v : UInt32} (hown : s.vm.findClass own = some m.cls) (hconst : (Jvm.Cond.constantFloat own index v).before args s = true) (hdg : decode cc pc = .ok (.ldc_w index, 3)) (k : W p l e R s m args below meth c H locs cells slots Q (F0 m (pc + 3) ls (.float v :: rest))) : W p l e R s m args below meth c H locs cells slots Q (F0 m pc ls rest) := by
  intro T hT X
  obtain ⟨t, a, b⟩ := k T hT X
  exact ⟨t, xldcwF X hexec hown hconst (g := F0 m pc ls rest) rfl (by rw [hb]; exact hdg) t a, b⟩
end LDCW
