/-! THE CLAIM OUT OF ONE WALK OF THE LAW'S BODY. Your part is whole_start (and what it stands on); all else here is the same for every law, but numbers. -/
def R_law : String := "MotionStatesLaw"
def lw_P (b : Addr) (xs : List Int32) (args : Array Value) (s : State) : Prop := args = #[.ref b] ∧ s.IntsAt b xs ∧ xs.length ≤ 2560 ∧ (Jvm.Cond.and given_1 narrow_1).before args s = true
/-- what a walk over the start with the record d0 says of its end, said of the start itself -/
theorem lw_closed {s t : State} {o : Outcome} {d0 : Drawn} {L : List Loc} {k n : Nat} (hd0 : s.drawn.sameBut d0 lw_cs) (hv : ∃ v, o = .returned v) (hW : (s.setDrawn d0).WarmedH t.vm) (hs : (s.setDrawn d0).sameButNew ({ t with vm := s.vm } : State) L k n) : State.butDraws s t lw_cs (fun t1 => Framed s o t1 L k n) := by
  have h2 : t.drawn = d0 := congrArg State.drawn hs.1
  refine ⟨⟨hv, hW, State.sameButNew.setDrawn hs s.drawn⟩, ?_, by decide⟩
  rw [h2]
  exact hd0
def lw_Q (_ : Array Value) (s : State) (o : Outcome) (t : State) : Prop := o = .returned (some (.int 1)) ∧ State.butDraws s t lw_cs (fun t1 => Framed s o t1 [] 600000 7302250)
def lw_Z (below : List Frame) (a : Array Value) (s : State) : State → Prop := fun t => ∃ o, t.status = .running ∧ Ended t below o ∧ lw_Q a s o t
/-- the law's own end, with 1 on the stack, nothing written that was there before, its room as the claim has it; d0: the record of draws at this point (at the entry s.drawn: begin with 'refine W.base ?_' and 'have hd0 := Drawn.sameBut.refl s.drawn lw_cs') -/
theorem lw_ret {p : Program} {l : Launch} {e : Env} {s : State} {m : MethodId} {below : List Frame} {meth : Method} {c : Code} {b : Nat} {d0 : Drawn} (hd0 : s.drawn.sameBut d0 lw_cs) (hx : p.tables.exec = Jvm.exec) (hb : c.code = code) (hr : meth.sig.returnType = ret) (hlocks : meth.locks = false) {pc : Nat} {H : Heap} {ls : Array Slot} (hdg : decode code pc = .ok (.ireturn, 1)) : W p l e room_1 (s.setDrawn d0) m #[Value.ref b] below meth c H [] 600000 7302250 (lw_Z below #[Value.ref b] s) (F0 m pc ls [.int 1]) := by
  intro T hT X
  obtain ⟨fs, hret, hrun, hended, hW, hframe⟩ := X.leave (v := some (.int 1)) (hlocks := hlocks) (fun h => by rw [hr] at h; cases h)
  have hmeth' : T.vm.method? m = some meth := X.method'
  refine ⟨T.setFrames fs, ?_, .returned (some (.int 1)), hrun, hended, rfl, lw_closed hd0 ⟨_, rfl⟩ hW hframe⟩
  jvm_step X.here [X.here.top, hx, hb, hdg, hmeth', hr, ret, narrow_b1]
  (try refine ⟨rfl, ?_⟩); (try refine ⟨rfl, ?_⟩)
  first | (intro acts; rw [hret _ acts rfl rfl rfl]) | rw [hret _ _ rfl rfl rfl]
  exact Steps.refl _
/-- what holds at the law's entry: the machine, the code, the tables' words (any of lw_tbl by 'hts w (by decide +kernel)'), the script of L ints xs at the cell b, what the Statement gives of the start (any of its parts by flat_of_before) -/
def lw_At (p : Program) (s : State) (m : MethodId) (meth : Method) (c : Code) (b L : Nat) (xs : Nat → Int32) : Prop :=
  p.tables.exec = Jvm.exec ∧ c.code = code ∧ meth.sig.returnType = ret ∧ c.maxLocals = 4 ∧ s.vm.findClass R_law = some m.cls ∧ (∀ w ∈ lw_tbl, w.before #[Value.ref b] s = true) ∧ va_X b L xs s s.heap ∧ b < s.heap.size ∧ meth.locks = false ∧ (Jvm.Cond.and given_1 narrow_1).before #[Value.ref b] s = true
/-! ===== the law: what holds at its entry ===== -/
theorem arr_prim {ty : FieldType} {args : Array Value} {s : State} (h : (Cond.arrayClass ty).before args s = true) : ∃ cA, ArrOfT s cA ty ∧ s.vm.findClass ("[" ++ ty.toString) = some cA := by
  obtain ⟨cA, kA, comp, hfind, hk, hkind⟩ := Cond.arrayClass_spec h
  exact ⟨cA, fun n z => ⟨fun k h => (by cases h), kA, hk, comp, hkind⟩, hfind⟩
theorem arr_obj {C : String} {args : Array Value} {s : State} (h : (Cond.arrayOver (.object C)).before args s = true) : ∃ cA, ArrOfT s cA (.object C) ∧ va_RA s cA (.object C) := by
  obtain ⟨comp, c, k, h1, h2, h3, h4, h5⟩ := Cond.arrayOver_spec h
  exact ⟨c, fun n z => ⟨fun k h => (by cases h), k, h3, comp, h4⟩, k, comp, h3, h4, h1, h5⟩
theorem lw_nF : ∀ q ∈ nwF, Cond.fieldLinkNest q.1 q.2.1 q.2.2.1 q.2.2.2.1 q.2.2.2.2.1 q.2.2.2.2.2 ∈ lw_tbl := by decide +kernel
theorem lw_nM : ∀ q ∈ nwM, Cond.methodLinkNest q.1 q.2.1 q.2.2.1 q.2.2.2 ∈ lw_tbl := by decide +kernel
def tmK (i : Nat) : Term := Term.string RX4 (kx_i.getD i 0)
abbrev fl1 : List Cond := flatC (Jvm.Cond.and given_1 narrow_1)
theorem kk_r : ∀ i, i < 9 → Cond.stringRef RX4 (kx_i.getD i 0) (kx_t.getD i "") ∈ lw_tbl := by decide +kernel
theorem kk_ex : ∀ i, i < 9 → Cond.exactly (tmK i) "java/lang/String" ∈ fl1 := by decide +kernel
theorem kk_co : ∀ i, i < 9 → Cond.eq (.field (tmK i) "java/lang/String" "coder" "B") (.int 0) ∈ fl1 := by decide +kernel
theorem kk_ar : ∀ i, i < 9 → Cond.arrayOf (.field (tmK i) "java/lang/String" "value" "[B") .byte ∈ fl1 := by decide +kernel
theorem kk_le : ∀ i, i < 9 → Cond.eq (.length (.field (tmK i) "java/lang/String" "value" "[B")) (.int (Int32.ofNat (kx_len.getD i 0))) ∈ fl1 := by decide +kernel
theorem kk_el : ∀ i, i < 9 → ∀ j, j < kx_len.getD i 0 → Cond.eq (.elem (.field (tmK i) "java/lang/String" "value" "[B") (.int (Int32.ofNat j))) (.int ((kx_byt.getD i []).getD j 0)) ∈ fl1 := by decide +kernel
theorem kk_ne : ∀ i, i < 9 → ∀ j, j < 9 → i ≠ j → Cond.not (Cond.eq (tmK i) (tmK j)) ∈ fl1 ∨ Cond.not (Cond.eq (tmK j) (tmK i)) ∈ fl1 := by decide +kernel
theorem kk_ln : ∀ i, i < 9 → kx_len.getD i 0 < 2 ^ 31 := by decide
theorem lw_ev {s : State} {b : Nat} (hts : ∀ w ∈ lw_tbl, w.before #[Value.ref b] s = true) (hgv : (Jvm.Cond.and given_1 narrow_1).before #[Value.ref b] s = true) : ∃ adK adV, Ev s.heap.size adK adV s s.heap := by
  have hs := flat_of_before _ hgv
  have hA : ∀ a : Nat, a < s.heap.size → ¬ s.heap.size ≤ a := fun a h => Nat.not_le.mpr h
  obtain ⟨adK, adV, h1, h2⟩ := vk_Sof (N := 9) (tm := tmK) (len := kx_len) (byt := kx_byt) (A := fun q => s.heap.size ≤ q) (args := #[Value.ref b]) kk_ln (fun i hi => hs _ (kk_ex i hi)) (fun i hi => hs _ (kk_co i hi)) (fun i hi => hs _ (kk_ar i hi)) (fun i hi => hs _ (kk_le i hi)) (fun i hi j hj => hs _ (kk_el i hi j hj)) (fun i j hi hj hij => (kk_ne i hi j hj hij).imp (fun h => hs _ h) (fun h => hs _ h)) hA
  have hcs : (Term.static "java/lang/String" "COMPACT_STRINGS" "Z").eval #[Value.ref b] s none [] s = some (.int 1) := Cond.eq_int (hs (Cond.eq (Term.static "java/lang/String" "COMPACT_STRINGS" "Z") (Term.int 1)) (by decide +kernel)) rfl
  exact ⟨adK, adV, fun q hq => va_Nw.of rfl (hts _ (lw_nF q hq)), fun q hq => va_Nw.of rfl (hts _ (lw_nM q hq)), fun i hi => vk_R.of (hts _ (kk_r i hi)) (h2 i hi), h1, va_Zof (hts (Cond.laysStatic "java/lang/String" "COMPACT_STRINGS" "Z") (by decide +kernel)) (hts (Cond.initialized "java/lang/String") (by decide +kernel)) hcs hA, va_Zqof (hts (Cond.laysStatic "jdk/internal/util/Preconditions" "SIOOBE_FORMATTER" "Ljava/util/function/BiFunction;") (by decide +kernel)) (hts (Cond.initialized "jdk/internal/util/Preconditions") (by decide +kernel)) (hs (Cond.isRef (Term.static "jdk/internal/util/Preconditions" "SIOOBE_FORMATTER" "Ljava/util/function/BiFunction;")) (by decide +kernel)) hA⟩
theorem lw_k {s : State} {b : Nat} (hts : ∀ w ∈ lw_tbl, w.before #[Value.ref b] s = true) : ∃ (D : va_G) (cC cF cI cZ cM cS : ClassId), va_K D vwCl (tysX cC cF cI cZ cM cS) s ∧ AOs s := by
  obtain ⟨c0, i0, k0⟩ := u_known (C := RX0) (T := TX0) (N := 6) (n := 6) hts inX0 (hts (.instantiable RX0 6) (by decide +kernel))
  obtain ⟨c1, i1, k1⟩ := u_known (C := RX1) (T := TX1) (N := 7) (n := 7) hts inX1 (hts (.instantiable RX1 7) (by decide +kernel))
  obtain ⟨c2, i2, k2⟩ := u_known (C := RX2) (T := TX2) (N := 4) (n := 4) hts inX2 (hts (.instantiable RX2 4) (by decide +kernel))
  obtain ⟨c3, i3, k3⟩ := u_known (C := RX3) (T := TX3) (N := 4) (n := 4) hts inX3 (hts (.instantiable RX3 4) (by decide +kernel))
  obtain ⟨c4, i4, k4⟩ := u_known (C := RX4) (T := TX4) (N := 7) (n := 7) hts inX4 (hts (.instantiable RX4 7) (by decide +kernel))
  obtain ⟨c5, i5, k5⟩ := u_known (C := RX5) (T := TX5) (N := 11) (n := 11) hts inX5 (hts (.instantiable RX5 11) (by decide +kernel))
  obtain ⟨c6, i6, k6⟩ := u_known (C := RX6) (T := TX6) (N := 23) (n := 23) hts inX6 (hts (.instantiable RX6 23) (by decide +kernel))
  obtain ⟨cC, aC, bC⟩ := arr_prim (hts (.arrayClass .char) (by decide +kernel))
  obtain ⟨cF, aF, bF⟩ := arr_prim (hts (.arrayClass .float) (by decide +kernel))
  obtain ⟨cI, aI, bI⟩ := arr_prim (hts (.arrayClass .int) (by decide +kernel))
  obtain ⟨cZ, aZ, bZ⟩ := arr_prim (hts (.arrayClass .boolean) (by decide +kernel))
  have oM := hts (.arrayOver (.object "MotionStates$Motion")) (by decide +kernel)
  have oS := hts (.arrayOver (.object "MotionStates$Shelf")) (by decide +kernel)
  obtain ⟨cM, aM, bM⟩ := arr_obj oM
  obtain ⟨cS, aS, bS⟩ := arr_obj oS
  refine ⟨(fun k => match k with | 0 => c0 | 1 => c1 | 2 => c2 | 3 => c3 | 4 => c4 | 5 => c5 | _ => c6, fun k => match k with | 0 => i0 | 1 => i1 | 2 => i2 | 3 => i3 | 4 => i4 | 5 => i5 | _ => i6), cC, cF, cI, cZ, cM, cS, ⟨fun c q hq => ?_, fun k q hq => ?_⟩, va_AO.of oM, va_AO.of oS⟩
  · match c, hq with
    | 0, hq => cases hq; exact k0
    | 1, hq => cases hq; exact k1
    | 2, hq => cases hq; exact k2
    | 3, hq => cases hq; exact k3
    | 4, hq => cases hq; exact k4
    | 5, hq => cases hq; exact k5
    | 6, hq => cases hq; exact k6
    | c + 7, hq => simp at hq
  · match k, hq with
    | 0, hq => cases hq; exact ⟨aC, bC⟩
    | 1, hq => cases hq; exact ⟨aF, bF⟩
    | 2, hq => cases hq; exact ⟨aI, bI⟩
    | 3, hq => cases hq; exact ⟨aZ, bZ⟩
    | 4, hq => cases hq; exact ⟨aM, bM⟩
    | 5, hq => cases hq; exact ⟨aS, bS⟩
    | k + 6, hq => simp at hq
/-! ===== two worlds side by side ===== -/
section LW2
variable {l : Launch} {y : MethodName} {wsy : List Cond} {rm : Room} {D : va_G} {B : Nat} {adK adV : Nat → Nat} {tys : List (ClassId × FieldType)} {av : List Value} {win wout wr : va_W} {rv : Option Value}
theorem P_left {H : Heap} (h : va_P D vwCl (win ++ wr) H) : va_P D vwCl win H := fun k q hk => h k q (by rw [List.getElem?_append_left (List.getElem?_eq_some_iff.mp hk).1]; exact hk)
theorem P_right {H : Heap} (h : va_P D vwCl (wr ++ win) H) : va_P D vwCl win H := fun k q hk => h (wr.length + k) q (by rw [List.getElem?_append_right (by omega), show wr.length + k - wr.length = k by omega]; exact hk)
theorem D_left {A : Nat → Prop} (h : va_D A (win ++ wr)) : va_D A win := ⟨fun i j p q hi hj e => h.1 i j p q (by rw [List.getElem?_append_left (List.getElem?_eq_some_iff.mp hi).1]; exact hi) (by rw [List.getElem?_append_left (List.getElem?_eq_some_iff.mp hj).1]; exact hj) e, fun k q hk => h.2 k q (by rw [List.getElem?_append_left (List.getElem?_eq_some_iff.mp hk).1]; exact hk)⟩
theorem D_right {A : Nat → Prop} (h : va_D A (wr ++ win)) : va_D A win := ⟨fun i j p q hi hj e => by
    have := h.1 (wr.length + i) (wr.length + j) p q (by rw [List.getElem?_append_right (by omega), show wr.length + i - wr.length = i by omega]; exact hi) (by rw [List.getElem?_append_right (by omega), show wr.length + j - wr.length = j by omega]; exact hj) e
    omega, fun k q hk => h.2 (wr.length + k) q (by rw [List.getElem?_append_right (by omega), show wr.length + k - wr.length = k by omega]; exact hk)⟩
theorem vB_l {q : Nat} (h : vB win q) : vB (win ++ wr) q := by
  obtain ⟨k, e, hk⟩ := h
  exact ⟨k, e, by rw [List.getElem?_append_left (List.getElem?_eq_some_iff.mp hk).1]; exact hk⟩
theorem vB_r {q : Nat} (h : vB win q) : vB (wr ++ win) q := by
  obtain ⟨k, e, hk⟩ := h
  exact ⟨wr.length + k, e, by rw [List.getElem?_append_right (by omega), show wr.length + k - wr.length = k by omega]; exact hk⟩
theorem Ct.left (h : Ct l y wsy rm D B adK adV tys av win wout rv) (hl : wout.map Prod.fst = win.map Prod.fst) (wr : va_W) : Ct l y wsy rm D B adK adV tys av (win ++ wr) (wout ++ wr) rv := by
  have hlen : wout.length = win.length := by have := congrArg List.length hl; simpa using this
  intro p e ha hc hk s m args below hf happ hP hK
  obtain ⟨ha0, hP0, hK0, hD0, hE0⟩ := hP
  obtain ⟨n, o, h1, h2, h3, ⟨hv, hP1, hF⟩, L, hFE, hL⟩ := h p e ha hc hk s m args below hf happ ⟨ha0, P_left hP0, hK0, D_left hD0, hE0⟩ hK
  refine ⟨n, o, h1, h2, h3, ⟨hv, fun k q hkq => ?_, hF.1, fun q g1 g2 => hF.2 q g1 (fun z => g2 (vB_l z))⟩, L, hFE, fun q hq => vB_l (hL q hq)⟩
  by_cases hkl : k < wout.length
  · rw [List.getElem?_append_left hkl] at hkq
    exact hP1 k q hkq
  · have hkq' : (win ++ wr)[k]? = some q := by
      rw [List.getElem?_append_right (by omega)] at hkq ⊢
      rw [← hlen]
      exact hkq
    refine (hP0 k q hkq').kept (hF.2 q.1 (hP0 k q hkq').lt (fun ⟨j, e', hj⟩ => ?_))
    have hj' : (win ++ wr)[j]? = some (q.1, e') := by rw [List.getElem?_append_left (List.getElem?_eq_some_iff.mp hj).1]; exact hj
    have := hD0.1 k j q (q.1, e') hkq' hj' rfl
    have := (List.getElem?_eq_some_iff.mp hj).1
    omega
theorem Ct.right (h : Ct l y wsy rm D B adK adV tys av win wout rv) (hl : wout.map Prod.fst = win.map Prod.fst) (wr : va_W) : Ct l y wsy rm D B adK adV tys av (wr ++ win) (wr ++ wout) rv := by
  have hlen : wout.length = win.length := by have := congrArg List.length hl; simpa using this
  intro p e ha hc hk s m args below hf happ hP hK
  obtain ⟨ha0, hP0, hK0, hD0, hE0⟩ := hP
  obtain ⟨n, o, h1, h2, h3, ⟨hv, hP1, hF⟩, L, hFE, hL⟩ := h p e ha hc hk s m args below hf happ ⟨ha0, P_right hP0, hK0, D_right hD0, hE0⟩ hK
  refine ⟨n, o, h1, h2, h3, ⟨hv, fun k q hkq => ?_, hF.1, fun q g1 g2 => hF.2 q g1 (fun z => g2 (vB_r z))⟩, L, hFE, fun q hq => vB_r (hL q hq)⟩
  by_cases hkl : k < wr.length
  · have hkq' : (wr ++ win)[k]? = some q := by
      rw [List.getElem?_append_left hkl] at hkq ⊢
      exact hkq
    refine (hP0 k q hkq').kept (hF.2 q.1 (hP0 k q hkq').lt (fun ⟨j, e', hj⟩ => ?_))
    have hj' : (wr ++ win)[wr.length + j]? = some (q.1, e') := by rw [List.getElem?_append_right (by omega), show wr.length + j - wr.length = j by omega]; exact hj
    have := hD0.1 k (wr.length + j) q (q.1, e') hkq' hj' rfl
    omega
  · rw [List.getElem?_append_right (by omega)] at hkq
    exact hP1 _ q hkq
end LW2
section LW3
variable {p : Program} {l : Launch} {e : Env} {R : Room} {s : State} {m : MethodId} {args : Array Value} {below : List Frame} {meth : Method} {c : Code} {H : Heap} {locs : List Loc} {cells slots : Nat} {Q : State → Prop}
variable {D : va_G} {B : Nat} {adK adV : Nat → Nat} {tys : List (ClassId × FieldType)} {ws ws' : va_W} {A : Nat → Prop} {y : MethodName} {cc bytes : ByteArray} {wsy Ts : List Cond} {rm : Room} {maxL nL n index pc : Nat} {ret : Option FieldType} {own C : String} {b : Addr} {As rest st0 : List Value} {ls : Array Slot} {rv : Option Value}
/-- a call that may change all of the world -/
theorem xcVw (S : CallFix p m c cc nL s args Ts own) (hM : Ct l y wsy rm D B adK adV tys (.ref b :: As) ws ws' rv) (cw : CallW R s args own C index y bytes maxL ret wsy rm 0 0 n) (hrecv : ∃ cellB : Cell, H[b]? = some cellB ∧ cellB.vm.isStatics = false ∧ s.vm.findClass C = some cellB.cls)
    (hK : va_K D vwCl tys s) (hP : va_P D vwCl ws H) (hD : va_D A ws) (hS : va_S A s.heap H locs) (hAB : ∀ q, A q → B ≤ q) (hE : Ev B adK adV s s.heap) (hl : ws'.map Prod.fst = ws.map Prod.fst)
    (hAs : As.length = n) (hsz : ls.size = nL) (hst : st0 = As.reverse ++ .ref b :: rest) (hr8 : (rest.map fun v => v.category).sum ≤ 8) (hdg : decode cc pc = .ok (.invokevirtual index, 3)) (hf : cells + 0 ≤ R.cells ∧ slots + 0 ≤ R.slots)
    (kk : ∀ (H1 : Heap) (locs1 : List Loc), va_P D vwCl ws' H1 → va_D A ws' → va_S A s.heap H1 locs1 → W p l e R s m args below meth c H1 locs1 cells slots Q (F0 m (pc + 3) ls (rv.toList ++ rest))) : W p l e R s m args below meth c H locs cells slots Q (F0 m pc ls st0) := by
  have hr := va_runV (e := e) (below := below) (meth := meth) (locs := locs) (rest := rest) S hM cw ⟨Std.blind, hrecv, fun U hU hW => ⟨rfl, ⟨by rw [hU]; exact hP, va_K.moved hW.alike hK, hD.weaken (fun k q _ h => hAB _ h), by
    rw [hU]
    exact (hE.kept (fun a h1 h2 => hS.2.1 a h1 (fun h => h2 (hAB a h)))).warm hW⟩⟩⟩ rfl hAs hsz hst (lv_room hr8) hdg hf
  intro T hT X
  obtain ⟨v, st₀, t, T', L, h0, X', hL, e1, e2, ⟨hv, hP1, hz, hk⟩, st⟩ := hr T hT X
  cases hv
  rw [h0] at hz hk
  have hfree : ∀ q, vB ws q → A q := fun q ⟨k, e, h⟩ => hD.2 k (q, e) h
  obtain ⟨t2, a1, b1⟩ := kk T'.heap (locs ++ L) (by rw [e1]; exact hP1) (va_D_fst hD hl)
    ⟨Nat.le_trans hS.1 (by rw [e1]; exact hz), fun q h1 h2 => by rw [e1, hk q (Nat.lt_of_lt_of_le h1 hS.1) (fun z => h2 (hfree q z))]; exact hS.2.1 q h1 h2, fun q hq => by
      rcases List.mem_append.mp hq with h | h
      · exact hS.2.2 q h
      · exact hfree _ (hL q h)⟩ T' rfl X'
  exact ⟨t2, st t2 a1, b1⟩
end LW3
theorem WX_len (xa : Nat) (ad : Nat → Nat) (cC cF cI cZ cM cS : ClassId) (σ : XS) : (WX xa ad cC cF cI cZ cM cS σ).length = 116 := rfl
theorem WX_fst (xa : Nat) (ad : Nat → Nat) (cC cF cI cZ cM cS : ClassId) (σ σ' : XS) : (WX xa ad cC cF cI cZ cM cS σ').map Prod.fst = (WX xa ad cC cF cI cZ cM cS σ).map Prod.fst := rfl
theorem WM_fst (ya : Nat) (am : Nat → Nat) (cC cF cI cZ cM cS : ClassId) (τ τ' : RS) : (WM ya am cC cF cI cZ cM cS τ').map Prod.fst = (WM ya am cC cF cI cZ cM cS τ).map Prod.fst := rfl
