/-! ===== reading: a clause, in both ===== -/
section RH
variable {lt mtx mwd : Nat → Int32} {n a b W S : Nat}
theorem i10 : ¬ (1 : Int32) = 0 := by decide
theorem i20 : ¬ (2 : Int32) = 0 := by decide
theorem i21 : ¬ (2 : Int32) = 1 := by decide
theorem i30 : ¬ (3 : Int32) = 0 := by decide
theorem i31 : ¬ (3 : Int32) = 1 := by decide
theorem i32' : ¬ (3 : Int32) = 2 := by decide
theorem i40 : ¬ (4 : Int32) = 0 := by decide
theorem i41 : ¬ (4 : Int32) = 1 := by decide
theorem i42 : ¬ (4 : Int32) = 2 := by decide
theorem i43 : ¬ (4 : Int32) = 3 := by decide
section T6
variable (mmk mwt mln mrs mrw mdo mnu : Int32) (mvl mof mtx mwd : Nat → Int32) (o9 o10 : Int32)
theorem t6_0 : t6 0 mmk mwt mln mrs mrw mdo mnu mvl mof mtx mwd o9 o10 = ((f_X6_clears mmk mwt mdo).bind fun (o13, o14, o15, o16) => (some ((1 : Int32), mvl, mof, o13, o14, o9, o10, o15, o16, mnu))) := by
  unfold t6; rw [if_pos rfl]
theorem t6_1 : t6 1 mmk mwt mln mrs mrw mdo mnu mvl mof mtx mwd o9 o10 = ((f_X6_takesState_L2 mrs mln mtx mdo 1000 0 o9 o10 mnu mvl).bind fun (r19, o20, o21, o22, o23, o24) => (gd (zok r19) (some (r19, o20, mof, mmk, mwt, o21, o22, o23, mrw, o24)))) := by
  unfold t6 f_X6_takesState; rw [if_neg i10, if_pos rfl]
theorem t6_2 : t6 2 mmk mwt mln mrs mrw mdo mnu mvl mof mtx mwd o9 o10 = ((f_X6_takesWay mln o9 o10 mrs mrw mdo mnu mof mtx mwd).bind fun (r28, o29, o30, o31, o32, o33) => (gd (zok r28) (some (r28, mvl, o29, mmk, mwt, o30, o31, mrs, o32, o33)))) := by
  unfold t6; rw [if_neg i20, if_neg i21, if_pos rfl]
theorem t6_3 : t6 3 mmk mwt mln mrs mrw mdo mnu mvl mof mtx mwd o9 o10 = (if mdo = 0 then (some (1, mvl, mof, mmk, mwt, o9, o10, mrs, mrw, mnu)) else (gd (iok ((((8 : Int32) * mrw) - 8) + 3) 96) (some (1, mvl, (upd mof (((((8 : Int32) * mrw) - 8) + 3).toNatClampNeg) 1), mmk, mwt, o9, o10, mrs, mrw, mnu)))) := by
  unfold t6; rw [if_neg i30, if_neg i31, if_neg i32', if_pos rfl]
theorem t6_4 : t6 4 mmk mwt mln mrs mrw mdo mnu mvl mof mtx mwd o9 o10 = ((f_X6_takesMask mmk mwt mln o9 o10 mdo mnu mtx).bind fun (r39, o40, o41, o42, o43, o44) => (gd (zok r39) (some (r39, mvl, mof, o40, o41, o42, o43, mrs, mrw, o44)))) := by
  unfold t6; rw [if_neg i40, if_neg i41, if_neg i42, if_neg i43]
end T6
abbrev cnd (r1 : Int32) (S W : Nat) : Prop := r1 = -1 ∨ (r1 = 1 ∧ 6 ≤ nI S) ∨ (r1 = 2 ∧ 12 ≤ nI W) ∨ (r1 = 3 ∧ nI W ≤ 0)
theorem c6_go {r1 : Int32} {a1 b1 : Nat} (w6 : f_X6_wordHere (nI n) (nI a) (nI b) mtx mwd 0 5 = some r1) (A6 : f_X6_nextToken (nI n) (nI b) mtx = some (nI a1, nI b1)) (hc : ¬ cnd r1 S W) (mmk mwt d mnu : Int32) (mvl mof : Nat → Int32) : f_X6_takesClause mmk mwt (nI n) (nI a) (nI b) (nI S) (nI W) d mnu mvl mof mtx mwd = t6 r1 mmk mwt (nI n) (nI S) (nI W) d mnu mvl mof mtx mwd (nI a1) (nI b1) := by
  rw [cl6, w6, Option.bind_some, if_neg hc, A6, Option.bind_some]
theorem c6_no {r1 : Int32} (w6 : f_X6_wordHere (nI n) (nI a) (nI b) mtx mwd 0 5 = some r1) (hc : cnd r1 S W) (mmk mwt d mnu : Int32) (mvl mof : Nat → Int32) : f_X6_takesClause mmk mwt (nI n) (nI a) (nI b) (nI S) (nI W) d mnu mvl mof mtx mwd = some (0, mvl, mof, mmk, mwt, nI a, nI b, nI S, nI W, mnu) := by
  rw [cl6, w6, Option.bind_some, if_pos hc]
section R5
variable {v : Nat} (w5 : ∀ u, u < 9 → f_X4_isWord (nI a) (nI b) lt u = some (bI (decide (u = v)))) (tln tam : Int32) (tsv : Nat → Int32) (fst fwy fmk fwt : Int32) (fvl fpt : Nat → Int32)
theorem bN {u v : Nat} (h : ¬ u = v) : bI (decide (u = v)) = 0 := by rw [decide_eq_false h]; rfl
theorem bY {u v : Nat} (h : u = v) : ¬ bI (decide (u = v)) = 0 := by rw [decide_eq_true h]; decide
theorem r5_0 (hv : v = 0) (w5 : ∀ u, u < 9 → f_X4_isWord (nI a) (nI b) lt u = some (bI (decide (u = v)))) : f_X4_readClause tln (nI a) (nI b) tam lt tsv fst fwy fmk fwt fvl fpt = ((f_X0_reset).bind fun (o54, o55, o56, o57) => ((f_X4_advance tln (nI b) lt).bind fun (o59, o60) => (some ((1 : Int32), tsv, fvl, fpt, o59, o60, tam, o54, o55, o56, o57)))) := by
  unfold f_X4_readClause
  rw [w5 0 (by omega), Option.bind_some, if_neg (bY (by omega))]
theorem r5_1 (hv : v = 1) (w5 : ∀ u, u < 9 → f_X4_isWord (nI a) (nI b) lt u = some (bI (decide (u = v)))) : f_X4_readClause tln (nI a) (nI b) tam lt tsv fst fwy fmk fwt fvl fpt = ((f_X4_readState tln (nI a) (nI b) tam lt tsv fst fvl).bind fun (r45, o46, o47, o48, o49, o50, o51) => (gd (zok r45) (some (r45, o46, o47, fpt, o48, o49, o50, o51, fwy, fmk, fwt)))) := by
  unfold f_X4_readClause
  rw [w5 0 (by omega), Option.bind_some, if_pos (bN (by omega)), w5 1 (by omega), Option.bind_some, if_neg (bY (by omega))]
theorem r5_2 (hv : v = 2) (w5 : ∀ u, u < 9 → f_X4_isWord (nI a) (nI b) lt u = some (bI (decide (u = v)))) : f_X4_readClause tln (nI a) (nI b) tam lt tsv fst fwy fmk fwt fvl fpt = ((f_X4_readWay tln (nI a) (nI b) tam lt fst fwy fpt).bind fun (r30, o31, o32, o33, o34) => (if r30 = 0 then (some ((0 : Int32), tsv, fvl, o31, o32, o33, o34, fst, fwy, fmk, fwt)) else ((f_X4_readCondition tln o32 o33 o34 lt fwy o31).bind fun (r37, o38, o39, o40, o41, o42) => (if r37 = 0 then (some ((0 : Int32), tsv, fvl, o38, o39, o40, o41, fst, o42, fmk, fwt)) else (some ((1 : Int32), tsv, fvl, o38, o39, o40, o41, fst, o42, fmk, fwt)))))) := by
  unfold f_X4_readClause
  rw [w5 0 (by omega), Option.bind_some, if_pos (bN (by omega)), w5 1 (by omega), Option.bind_some, if_pos (bN (by omega)), w5 2 (by omega), Option.bind_some, if_neg (bY (by omega))]
theorem r5_7 (hv : v = 7) (w5 : ∀ u, u < 9 → f_X4_isWord (nI a) (nI b) lt u = some (bI (decide (u = v)))) : f_X4_readClause tln (nI a) (nI b) tam lt tsv fst fwy fmk fwt fvl fpt = ((f_X4_readBreaking tln (nI a) (nI b) lt fwy fpt).bind fun (r24, o25, o26, o27) => (gd (zok r24) (some (r24, tsv, fvl, o25, o26, o27, tam, fst, fwy, fmk, fwt)))) := by
  unfold f_X4_readClause
  rw [w5 0 (by omega), Option.bind_some, if_pos (bN (by omega)), w5 1 (by omega), Option.bind_some, if_pos (bN (by omega)), w5 2 (by omega), Option.bind_some, if_pos (bN (by omega)), w5 7 (by omega), Option.bind_some, if_neg (bY (by omega))]
theorem r5_8 (hv : v = 8) (w5 : ∀ u, u < 9 → f_X4_isWord (nI a) (nI b) lt u = some (bI (decide (u = v)))) : f_X4_readClause tln (nI a) (nI b) tam lt tsv fst fwy fmk fwt fvl fpt = ((f_X4_readMask tln (nI b) tam lt fmk fwt).bind fun (r16, o17, o18, o19, o20, o21) => (if r16 = 0 then (some ((0 : Int32), tsv, fvl, fpt, o17, o18, o19, fst, fwy, o20, o21)) else (some ((1 : Int32), tsv, fvl, fpt, o17, o18, o19, fst, fwy, o20, o21)))) := by
  unfold f_X4_readClause
  rw [w5 0 (by omega), Option.bind_some, if_pos (bN (by omega)), w5 1 (by omega), Option.bind_some, if_pos (bN (by omega)), w5 2 (by omega), Option.bind_some, if_pos (bN (by omega)), w5 7 (by omega), Option.bind_some, if_pos (bN (by omega)), w5 8 (by omega), Option.bind_some, if_neg (bY (by omega))]
theorem r5_9 (hv : 3 ≤ v ∧ (v ≤ 6 ∨ v = 9)) (w5 : ∀ u, u < 9 → f_X4_isWord (nI a) (nI b) lt u = some (bI (decide (u = v)))) : f_X4_readClause tln (nI a) (nI b) tam lt tsv fst fwy fmk fwt fvl fpt = some (0, tsv, fvl, fpt, nI a, nI b, tam, fst, fwy, fmk, fwt) := by
  unfold f_X4_readClause
  rw [w5 0 (by omega), Option.bind_some, if_pos (bN (by omega)), w5 1 (by omega), Option.bind_some, if_pos (bN (by omega)), w5 2 (by omega), Option.bind_some, if_pos (bN (by omega)), w5 7 (by omega), Option.bind_some, if_pos (bN (by omega)), w5 8 (by omega), Option.bind_some, if_pos (bN (by omega))]
end R5
theorem cl_both (h : Tk lt n a b) (hT : Tx lt mtx n) (hwd : WTab mwd) {fst fwy fmk fwt gmk gwt : Int32} {fvl fpt gvl gof : Nat → Int32} (hG : RG S W (fst, fwy, fmk, fwt, fvl, fpt) gmk gwt gvl gof) (tam mnu0 mnu1 mmk mwt : Int32) (tsv mvl mof : Nat → Int32) :
    (∃ a' b' tsv' fvl' fpt' tam' x1 x2 x3 x4 y1 y2 mnu', Tk lt n a' b' ∧ f_X4_readClause (nI n) (nI a) (nI b) tam lt tsv fst fwy fmk fwt fvl fpt = some (0, tsv', fvl', fpt', nI a', nI b', tam', x1, x2, x3, x4) ∧ f_X6_takesClause mmk mwt (nI n) (nI a) (nI b) (nI S) (nI W) 0 mnu0 mvl mof mtx mwd = some (0, mvl, mof, mmk, mwt, nI a', nI b', y1, y2, mnu')) ∨
    ∃ S' W' a' b' tsv' tam' fst' fwy' fmk' fwt' fvl' fpt' gmk' gwt' gvl' gof' mnu' mnu'', Tk lt n a' b' ∧ RG S' W' (fst', fwy', fmk', fwt', fvl', fpt') gmk' gwt' gvl' gof' ∧ f_X4_readClause (nI n) (nI a) (nI b) tam lt tsv fst fwy fmk fwt fvl fpt = some (1, tsv', fvl', fpt', nI a', nI b', tam', fst', fwy', fmk', fwt') ∧ f_X6_takesClause mmk mwt (nI n) (nI a) (nI b) (nI S) (nI W) 0 mnu0 mvl mof mtx mwd = some (1, mvl, mof, mmk, mwt, nI a', nI b', nI S', nI W', mnu') ∧ f_X6_takesClause gmk gwt (nI n) (nI a) (nI b) (nI S) (nI W) 1 mnu1 gvl gof mtx mwd = some (1, gvl', gof', gmk', gwt', nI a', nI b', nI S', nI W', mnu'') := by
  have hG' := hG
  obtain ⟨f1, -, f3, -, -, -, -, f8, -⟩ := hG'
  have f1' : fst = nI S := f1
  have f3' : fwy = nI W := f3
  subst f1' f3'
  have hS6 := f8.1
  have hW12 := f8.2.1
  obtain ⟨v, hv, w5, -, w6⟩ := w_both h hT hwd
  have A := q_adv h
  have A6 := q6_adv h hT
  have t1 := h.nx
  generalize tsta lt n b = a1 at A A6 t1
  generalize tend lt n a1 = b1 at A A6 t1
  obtain rfl | rfl | rfl | rfl | rfl | hv' : v = 0 ∨ v = 1 ∨ v = 2 ∨ v = 7 ∨ v = 8 ∨ (3 ≤ v ∧ (v ≤ 6 ∨ v = 9)) := by omega
  · -- figure
    have w6' : f_X6_wordHere (nI n) (nI a) (nI b) mtx mwd 0 5 = some 0 := w6
    have hc : ¬ cnd 0 S W := by
      rintro (z | z | z | z)
      · exact absurd z (by decide)
      · exact absurd z.1 (by decide)
      · exact absurd z.1 (by decide)
      · exact absurd z.1 (by decide)
    refine Or.inr ⟨0, 0, a1, b1, tsv, tam, 0, 0, 0, 16, fvl, fpt, 0, 16, gvl, gof, mnu0, mnu1, t1, RG_new, ?_, ?_, ?_⟩
    · rw [r5_0 (nI n) tam tsv (nI S) (nI W) fmk fwt fvl fpt rfl w5, A]; rfl
    · rw [c6_go w6' A6 hc, t6_0]; rfl
    · rw [c6_go w6' A6 hc, t6_0]; rfl
  · -- state
    have w6' : f_X6_wordHere (nI n) (nI a) (nI b) mtx mwd 0 5 = some 1 := w6
    have R5 := r5_1 (nI n) tam tsv (nI S) (nI W) fmk fwt fvl fpt rfl w5
    unfold f_X4_readState at R5
    by_cases hS : S < 6
    · have hc : ¬ cnd 1 S W := by
        rintro (z | z | z | z)
        · exact absurd z (by decide)
        · have := z.2; rw [l6, le_nI (by omega) (by omega)] at this; omega
        · exact absurd z.1 (by decide)
        · exact absurd z.1 (by decide)
      rw [if_pos (show nI S < 6 by show nI S < nI 6; rw [lt_nI (by omega) (by omega)]; exact hS), A, Option.bind_some] at R5
      rcases st_both_L hT hS fvl 4 1000 1000 0 a1 b1 tam mnu0 mnu1 tsv gvl rfl (by omega) (by omega) (by omega) t1 (fun j hj => absurd hj (by omega)) with ⟨a', b', tsv', tam', mnu', i0, i1, i2⟩ | ⟨a', b', tsv', tam', mnu', mnu'', gvl', i0, i1, i2, i3, i4, i5⟩
      · have i1' : f_X4_readState_L17 (nI S) fvl (nI n) lt 1000 0 (nI a1) (nI b1) tam tsv = some (0, tsv', fvl, nI a', nI b', tam', nI S) := i1
        have i2' : f_X6_takesState_L2 (nI S) (nI n) mtx 0 1000 0 (nI a1) (nI b1) mnu0 mvl = some (0, mvl, nI a', nI b', nI S, mnu') := i2 mvl
        refine Or.inl ⟨a', b', tsv', fvl, fpt, tam', nI S, nI W, fmk, fwt, nI S, nI W, mnu', i0, ?_, ?_⟩
        · refine R5.trans ((congrArg (fun o => Option.bind o _) i1').trans ?_)
          rw [Option.bind_some]
          exact gd_t z0k
        · rw [c6_go w6' A6 hc, t6_1, i2', Option.bind_some]
          exact gd_t z0k
      · have i1' : f_X4_readState_L17 (nI S) fvl (nI n) lt 1000 0 (nI a1) (nI b1) tam tsv = some (1, tsv', va_cpy tsv' fvl 0 (S * 4) 4, nI a', nI b', tam', nI (S + 1)) := i1
        have i2' : f_X6_takesState_L2 (nI S) (nI n) mtx 0 1000 0 (nI a1) (nI b1) mnu0 mvl = some (1, mvl, nI a', nI b', nI (S + 1), mnu') := i2 mvl
        have i3' : f_X6_takesState_L2 (nI S) (nI n) mtx 1 1000 0 (nI a1) (nI b1) mnu1 gvl = some (1, gvl', nI a', nI b', nI (S + 1), mnu'') := i3
        refine Or.inr ⟨S + 1, W, a', b', tsv', tam', nI (S + 1), nI W, fmk, fwt, va_cpy tsv' fvl 0 (S * 4) 4, fpt, gmk, gwt, gvl', gof, mnu', mnu'', i0, RG_state hG hS i4 i5, ?_, ?_, ?_⟩
        · refine R5.trans ((congrArg (fun o => Option.bind o _) i1').trans ?_)
          rw [Option.bind_some]
          exact gd_t z1k
        · rw [c6_go w6' A6 hc, t6_1, i2', Option.bind_some]
          exact gd_t z1k
        · rw [c6_go w6' A6 hc, t6_1, i3', Option.bind_some]
          exact gd_t z1k
    · have hc : cnd 1 S W := Or.inr (Or.inl ⟨rfl, by rw [l6, le_nI (by omega) (by omega)]; omega⟩)
      rw [if_neg (show ¬ nI S < 6 by show ¬ nI S < nI 6; rw [lt_nI (by omega) (by omega)]; exact hS), Option.bind_some] at R5
      refine Or.inl ⟨a, b, tsv, fvl, fpt, tam, nI S, nI W, fmk, fwt, nI S, nI W, mnu0, h, ?_, c6_no w6' hc mmk mwt 0 mnu0 mvl mof⟩
      rw [R5]
      exact gd_t z0k
  · -- way
    have w6' : f_X6_wordHere (nI n) (nI a) (nI b) mtx mwd 0 5 = some 2 := w6
    have R5 := r5_2 (nI n) tam tsv (nI S) (nI W) fmk fwt fvl fpt rfl w5
    rw [way5] at R5
    by_cases hW : W < 12
    · have hc : ¬ cnd 2 S W := by
        rintro (z | z | z | z)
        · exact absurd z (by decide)
        · exact absurd z.1 (by decide)
        · have := z.2; rw [l12, le_nI (by omega) (by omega)] at this; omega
        · exact absurd z.1 (by decide)
      rw [if_pos (show nI W < 12 by show nI W < nI 12; rw [lt_nI (by omega) (by omega)]; exact hW), A, Option.bind_some] at R5
      rcases wy_both t1 hT hwd hS6 hW with ⟨a', b', x0, x1, x2⟩ | ⟨a', b', f, t, k, c, p, v, t5, hf, ht, hk, hcc, hp, ⟨a2, b2, x1⟩, x2, x3⟩
      · obtain ⟨mnu', e2⟩ := x2 mnu0 mof
        have E6 : f_X6_takesClause mmk mwt (nI n) (nI a) (nI b) (nI S) (nI W) 0 mnu0 mvl mof mtx mwd = some (0, mvl, mof, mmk, mwt, nI a', nI b', nI S, nI W, mnu') := by
          rw [c6_go w6' A6 hc, t6_2, e2, Option.bind_some]
          exact gd_t z0k
        rcases x1 with x1 | ⟨a2, b2, x1⟩
        · obtain ⟨tam', fpt', e1⟩ := x1 tam fpt
          refine Or.inl ⟨a', b', tsv, fvl, fpt', tam', nI S, nI W, fmk, fwt, nI S, nI W, mnu', x0, ?_, E6⟩
          refine R5.trans ((congrArg (fun o => Option.bind o _) e1).trans ?_)
          rw [Option.bind_some]
          exact if_pos rfl
        · obtain ⟨tam', tam'', fpt', fpt'', e1, e1'⟩ := x1 tam fpt
          refine Or.inl ⟨a', b', tsv, fvl, fpt'', tam'', nI S, nI W, fmk, fwt, nI S, nI W, mnu', x0, ?_, E6⟩
          refine R5.trans ((congrArg (fun o => Option.bind o _) e1).trans ?_)
          rw [Option.bind_some]
          refine (if_neg i10).trans ?_
          rw [e1', Option.bind_some]
          exact if_pos rfl
      · obtain ⟨tam', tam'', e1, e1'⟩ := x1 tam fpt
        obtain ⟨mnu', e2⟩ := x2 mnu0 mof
        obtain ⟨gof', mnu'', e3, e4⟩ := x3 mnu1 gof
        refine Or.inr ⟨S, W + 1, a', b', tsv, tam'', nI S, nI (W + 1), fmk, fwt, fvl, PtC W (PtW W fpt f t k) c p v, gmk, gwt, gvl, gof', mnu', mnu'', t5, RG_way hG hW hf ht hk hcc hp e4, ?_, ?_, ?_⟩
        · refine R5.trans ((congrArg (fun o => Option.bind o _) e1).trans ?_)
          rw [Option.bind_some]
          refine (if_neg i10).trans ?_
          rw [e1', Option.bind_some]
          exact if_neg i10
        · rw [c6_go w6' A6 hc, t6_2, e2, Option.bind_some]
          exact gd_t z1k
        · rw [c6_go w6' A6 hc, t6_2, e3, Option.bind_some]
          exact gd_t z1k
    · have hc : cnd 2 S W := Or.inr (Or.inr (Or.inl ⟨rfl, by rw [l12, le_nI (by omega) (by omega)]; omega⟩))
      rw [if_neg (show ¬ nI W < 12 by show ¬ nI W < nI 12; rw [lt_nI (by omega) (by omega)]; exact hW), Option.bind_some] at R5
      refine Or.inl ⟨a, b, tsv, fvl, fpt, tam, nI S, nI W, fmk, fwt, nI S, nI W, mnu0, h, ?_, c6_no w6' hc mmk mwt 0 mnu0 mvl mof⟩
      rw [R5]
      exact if_pos rfl
  · -- breaking
    have w6' : f_X6_wordHere (nI n) (nI a) (nI b) mtx mwd 0 5 = some 3 := w6
    have R5 := r5_7 (nI n) tam tsv (nI S) (nI W) fmk fwt fvl fpt rfl w5
    unfold f_X4_readBreaking at R5
    cases W with
    | zero =>
      have hc : cnd 3 S 0 := Or.inr (Or.inr (Or.inr ⟨rfl, by decide⟩))
      rw [if_pos (show nI 0 = 0 from rfl), Option.bind_some] at R5
      refine Or.inl ⟨a, b, tsv, fvl, fpt, tam, nI S, nI 0, fmk, fwt, nI S, nI 0, mnu0, h, ?_, c6_no w6' hc mmk mwt 0 mnu0 mvl mof⟩
      rw [R5]
      exact gd_t z0k
    | succ W =>
      have hc : ¬ cnd 3 S (W + 1) := by
        rintro (z | z | z | z)
        · exact absurd z (by decide)
        · exact absurd z.1 (by decide)
        · exact absurd z.1 (by decide)
        · have := z.2; rw [show (0 : Int32) = nI 0 from rfl, le_nI (by omega) (by omega)] at this; omega
      have e1 : nI (W + 1) - 1 = nI W := by rw [show (1 : Int32) = nI 1 from rfl, sb_nI (by omega)]; rfl
      have e2 : f_X0_putPart fpt (nI W) 3 1 = some (upd fpt (W * 7 + 3) 1) := p_putPart (show W < 12 by omega) (k := 3) (by omega)
      rw [if_neg (show ¬ nI (W + 1) = 0 by show ¬ nI (W + 1) = nI 0; rw [eq_nI (by omega) (by omega)]; omega), e1, e2, Option.bind_some, A, Option.bind_some] at R5
      have e3 : ((8 : Int32) * nI (W + 1)) - 8 + 3 = nI (8 * W + 3) := by
        rw [l8, l3, mu_nI, sb_nI (by omega), ad_nI, show 8 * (W + 1) - 8 + 3 = 8 * W + 3 by omega]
      refine Or.inr ⟨S, W + 1, a1, b1, tsv, tam, nI S, nI (W + 1), fmk, fwt, fvl, upd fpt (W * 7 + 3) 1, gmk, gwt, gvl, upd gof (8 * W + 3) 1, mnu0, mnu1, t1, RG_brk hG, ?_, ?_, ?_⟩
      · rw [R5]
        exact gd_t z1k
      · rw [c6_go w6' A6 hc, t6_3]
        exact if_pos rfl
      · rw [c6_go w6' A6 hc, t6_3, if_neg i10, e3, gd_iok (show 8 * W + 3 < 96 by omega) (by omega), cl_nI (by omega)]
  · -- mask
    have w6' : f_X6_wordHere (nI n) (nI a) (nI b) mtx mwd 0 5 = some 4 := w6
    have R5 := r5_8 (nI n) tam tsv (nI S) (nI W) fmk fwt fvl fpt rfl w5
    unfold f_X4_readMask at R5
    rw [A, Option.bind_some] at R5
    have hc : ¬ cnd 4 S W := by
      rintro (z | z | z | z)
      · exact absurd z (by decide)
      · exact absurd z.1 (by decide)
      · exact absurd z.1 (by decide)
      · exact absurd z.1 (by decide)
    rcases mk_both t1 hT with ⟨a', b', x0, x1, x2⟩ | ⟨a', b', k, w, x0, hk, hw, x1, x2, x3⟩
    · obtain ⟨tam', e1⟩ := x1 tam fmk fwt
      obtain ⟨mnu', e2⟩ := x2 mnu0 mmk mwt
      refine Or.inl ⟨a', b', tsv, fvl, fpt, tam', nI S, nI W, fmk, fwt, nI S, nI W, mnu', x0, ?_, ?_⟩
      · refine R5.trans ?_
        refine (congrArg (fun o => Option.bind o _) e1).trans ?_
        rw [Option.bind_some]
        exact if_pos rfl
      · rw [c6_go w6' A6 hc, t6_4, e2, Option.bind_some]
        exact gd_t z0k
    · obtain ⟨tam', e1⟩ := x1 tam fmk fwt
      obtain ⟨mnu', e2⟩ := x2 mnu0 mmk mwt
      obtain ⟨mnu'', e3⟩ := x3 mnu1 gmk gwt
      refine Or.inr ⟨S, W, a', b', tsv, tam', nI S, nI W, nI k, nI w, fvl, fpt, nI k, nI w, gvl, gof, mnu', mnu'', x0, RG_mask hG hk hw, ?_, ?_, ?_⟩
      · refine R5.trans ?_
        refine (congrArg (fun o => Option.bind o _) e1).trans ?_
        rw [Option.bind_some]
        exact if_neg i10
      · rw [c6_go w6' A6 hc, t6_4, e2, Option.bind_some]
        exact gd_t z1k
      · rw [c6_go w6' A6 hc, t6_4, e3, Option.bind_some]
        exact gd_t z1k
  · -- no such word
    have ec : clI v = -1 := by
      unfold clI
      rw [if_neg (by omega), if_neg (by omega), if_neg (by omega)]
    rw [ec] at w6
    exact Or.inl ⟨a, b, tsv, fvl, fpt, tam, nI S, nI W, fmk, fwt, nI S, nI W, mnu0, h, r5_9 (nI n) tam tsv (nI S) (nI W) fmk fwt fvl fpt hv' w5, c6_no w6 (Or.inl rfl) mmk mwt 0 mnu0 mvl mof⟩
end RH
