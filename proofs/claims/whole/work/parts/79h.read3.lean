/-! ===== reading: clauses, in both ===== -/
section RF
variable {lt mtx mwd : Nat → Int32} {n a b W S : Nat}
/-- the mask, in both -/
theorem mk_both (h : Tk lt n a b) (hT : Tx lt mtx n) :
    (∃ a' b', Tk lt n a' b' ∧ (∀ tam fmk fwt, ∃ tam', ((f_X4_readUpTo (nI n) (nI a) (nI b) tam lt 15).bind fun (r4, o5, o6, o7) => (if r4 = 0 then (some (0, o5, o6, o7, fmk, fwt)) else ((f_X4_readUpTo (nI n) o5 o6 o7 lt 16).bind fun (r10, o11, o12, o13) => (if r10 = 0 then (some (0, o11, o12, o13, fmk, fwt)) else (some ((1 : Int32), o11, o12, o13, o7, o13)))))) = some (0, nI a', nI b', tam', fmk, fwt)) ∧ (∀ mnu mmk mwt, ∃ mnu', f_X6_takesMask mmk mwt (nI n) (nI a) (nI b) 0 mnu mtx = some (0, mmk, mwt, nI a', nI b', mnu'))) ∨
    ∃ a' b' k w, Tk lt n a' b' ∧ k < 16 ∧ w < 17 ∧ (∀ tam fmk fwt, ∃ tam', ((f_X4_readUpTo (nI n) (nI a) (nI b) tam lt 15).bind fun (r4, o5, o6, o7) => (if r4 = 0 then (some (0, o5, o6, o7, fmk, fwt)) else ((f_X4_readUpTo (nI n) o5 o6 o7 lt 16).bind fun (r10, o11, o12, o13) => (if r10 = 0 then (some (0, o11, o12, o13, fmk, fwt)) else (some ((1 : Int32), o11, o12, o13, o7, o13)))))) = some (1, nI a', nI b', tam', nI k, nI w)) ∧ (∀ mnu mmk mwt, ∃ mnu', f_X6_takesMask mmk mwt (nI n) (nI a) (nI b) 0 mnu mtx = some (1, mmk, mwt, nI a', nI b', mnu')) ∧ (∀ mnu mmk mwt, ∃ mnu', f_X6_takesMask mmk mwt (nI n) (nI a) (nI b) 1 mnu mtx = some (1, nI k, nI w, nI a', nI b', mnu')) := by
  unfold f_X6_takesMask
  rcases up_both h hT 15 with ⟨u1, u2⟩ | ⟨a2, b2, k, u0, u3, u4, u5, u1, u2⟩
  · refine Or.inl ⟨a, b, h, fun tam fmk fwt => ⟨tam, ?_⟩, fun mnu mmk mwt => ⟨mnu, ?_⟩⟩
    · rw [u1]; rfl
    · rw [u2]; rfl
  · have hk := le2 (m := 15) u5 u3 (by omega)
    rcases up_both u0 hT 16 with ⟨v1, v2⟩ | ⟨a3, b3, w, v0, v3, v4, v5, v1, v2⟩
    · refine Or.inl ⟨a2, b2, u0, fun tam fmk fwt => ⟨nI k, ?_⟩, fun mnu mmk mwt => ⟨nI k, ?_⟩⟩
      · rw [u1]
        simp only [Option.bind_some, if_neg o10]
        rw [v1]; rfl
      · rw [u2]
        simp only [Option.bind_some, if_neg o10]
        rw [v2]; rfl
    · have hw := le2 (m := 16) v5 v3 (by omega)
      refine Or.inr ⟨a3, b3, k, w, v0, by omega, by omega, fun tam fmk fwt => ⟨nI w, ?_⟩, fun mnu mmk mwt => ⟨nI w, ?_⟩, fun mnu mmk mwt => ⟨nI w, ?_⟩⟩
      · rw [u1]
        simp only [Option.bind_some, if_neg o10]
        rw [v1]; rfl
      · rw [u2]
        simp only [Option.bind_some, if_neg o10]
        rw [v2]; rfl
      · rw [u2]
        simp only [Option.bind_some, if_neg o10]
        rw [v2]; rfl
/-- a figure in both, by its parts -/
def RG (S W : Nat) (fi : FiT) (gmk gwt : Int32) (gvl gof : Nat → Int32) : Prop := RFi S W fi (nI S) (nI W) gmk gwt gvl gof
theorem RG_state {fst fwy fmk fwt gmk gwt : Int32} {fvl fpt gvl gof : Nat → Int32} (h : RG S W (fst, fwy, fmk, fwt, fvl, fpt) gmk gwt gvl gof) (hS : S < 6) {tsv gvl' : Nat → Int32} (h4 : ∀ j, j < 4 → gvl' (4 * S + j) = tsv j ∧ VOK (tsv j)) (h5 : ∀ j, j < 4 * S → gvl' j = gvl j) :
    RG (S + 1) W (nI (S + 1), fwy, fmk, fwt, va_cpy tsv fvl 0 (S * 4) 4, fpt) gmk gwt gvl' gof := by
  obtain ⟨f1, f2, f3, f4, f5, f6, f7, f8, f9⟩ := h
  refine ⟨rfl, rfl, f3, f4, f5, f6, fun j hj => ?_, ⟨by omega, f8.2.1, fun w hw => ?_⟩, f9⟩
  · show va_cpy tsv fvl 0 (S * 4) 4 j = gvl' j ∧ VOK (gvl' j)
    by_cases hc : j < 4 * S
    · rw [pk_cpy_out (by omega), h5 j hc]
      exact f7 j hc
    · have e : j = 4 * S + (j - 4 * S) := by omega
      have h6 := h4 (j - 4 * S) (by omega)
      rw [← e] at h6
      rw [pk_cpy_in (by omega) (by omega), show 0 + (j - S * 4) = j - 4 * S by omega, h6.1]
      exact ⟨rfl, h6.2⟩
  · obtain ⟨⟨x, e0, hx⟩, ⟨y, e1, hy⟩, r⟩ := f8.2.2 w hw
    exact ⟨⟨x, e0, by omega⟩, ⟨y, e1, by omega⟩, r⟩
theorem RG_way {fst fwy fmk fwt gmk gwt : Int32} {fvl fpt gvl gof : Nat → Int32} (h : RG S W (fst, fwy, fmk, fwt, fvl, fpt) gmk gwt gvl gof) (hW : W < 12) {f t k c p : Nat} {v : Int32} (hf : f < S ∨ f = 9) (ht : t < S) (hk : k ∈ [0, 1, 2, 4, 8, 16]) (hc : c < 4) (hp : p < 3) {gof' : Nat → Int32} (ho : OfC W (OfW W gof f t k) gof' c p v) :
    RG S (W + 1) (fst, nI (W + 1), fmk, fwt, fvl, PtC W (PtW W fpt f t k) c p v) gmk gwt gvl gof' := by
  obtain ⟨f1, f2, f3, f4, f5, f6, f7, f8, f9⟩ := h
  obtain ⟨o1, o2, o3, o4⟩ := ho
  have q0 : PtC W (PtW W fpt f t k) c p v (W * 7 + 0) = nI f := by unfold PtC PtW; simp (disch := omega) only [upd_n, upd_s]
  have q1 : PtC W (PtW W fpt f t k) c p v (W * 7 + 1) = nI t := by unfold PtC PtW; simp (disch := omega) only [upd_n, upd_s]
  have q2 : PtC W (PtW W fpt f t k) c p v (W * 7 + 2) = nI k := by unfold PtC PtW; simp (disch := omega) only [upd_n, upd_s]
  have q3 : PtC W (PtW W fpt f t k) c p v (W * 7 + 3) = nI 0 := by unfold PtC PtW; simp (disch := omega) only [upd_n, upd_s]; rfl
  have q4 : PtC W (PtW W fpt f t k) c p v (W * 7 + 4) = nI c := by unfold PtC PtW; simp (disch := omega) only [upd_n, upd_s]
  have q5 : PtC W (PtW W fpt f t k) c p v (W * 7 + 5) = nI p := by unfold PtC PtW; simp (disch := omega) only [upd_n, upd_s]
  have q6 : PtC W (PtW W fpt f t k) c p v (W * 7 + 6) = v := by unfold PtC PtW; simp (disch := omega) only [upd_s]
  have qw : ∀ w, w < W → ∀ j, j < 7 → PtC W (PtW W fpt f t k) c p v (w * 7 + j) = fpt (w * 7 + j) := fun w hw j hj => by unfold PtC PtW; simp (disch := omega) only [upd_n]
  have r0 : gof' (8 * W + 0) = nI f := by rw [o1 _ (by omega)]; unfold OfW; simp (disch := omega) only [upd_n, upd_s]
  have r1 : gof' (8 * W + 1) = nI t := by rw [o1 _ (by omega)]; unfold OfW; simp (disch := omega) only [upd_n, upd_s]
  have r2 : gof' (8 * W + 2) = nI k := by rw [o1 _ (by omega)]; unfold OfW; simp (disch := omega) only [upd_n, upd_s]
  have r3 : gof' (8 * W + 3) = nI 0 := by rw [o1 _ (by omega)]; unfold OfW; simp (disch := omega) only [upd_s]; rfl
  have rw' : ∀ w, w < W → ∀ j, j < 7 → gof' (8 * w + j) = gof (8 * w + j) := fun w hw j hj => by rw [o1 _ (by omega)]; unfold OfW; simp (disch := omega) only [upd_n]
  refine ⟨f1, f2, rfl, rfl, f5, f6, f7, ⟨f8.1, by omega, fun w hw => ?_⟩, fun w hw j hj => ?_⟩
  · by_cases hww : w < W
    · have := f8.2.2 w hww
      unfold WayOK at this ⊢
      simp only at this ⊢
      rw [qw w hww 0 (by omega), qw w hww 1 (by omega), qw w hww 2 (by omega), qw w hww 3 (by omega), qw w hww 4 (by omega), qw w hww 5 (by omega)]
      exact this
    · have : w = W := by omega
      subst this
      exact ⟨⟨f, q0, hf⟩, ⟨t, q1, ht⟩, ⟨k, q2, hk⟩, Or.inl q3, ⟨c, q4, hc⟩, ⟨p, q5, hp⟩⟩
  · show gof' (8 * w + j) = PtC W (PtW W fpt f t k) c p v (w * 7 + j)
    by_cases hww : w < W
    · rw [qw w hww j hj, rw' w hww j hj]
      exact f9 w hww j hj
    · have : w = W := by omega
      subst this
      obtain rfl | rfl | rfl | rfl | rfl | rfl | rfl : j = 0 ∨ j = 1 ∨ j = 2 ∨ j = 3 ∨ j = 4 ∨ j = 5 ∨ j = 6 := by omega
      · rw [q0, r0]
      · rw [q1, r1]
      · rw [q2, r2]
      · rw [q3, r3]
      · rw [q4, o2]
      · rw [q5, o3]
      · rw [q6, o4]
theorem RG_brk {fst fwy fmk fwt gmk gwt : Int32} {fvl fpt gvl gof : Nat → Int32} (h : RG S (W + 1) (fst, fwy, fmk, fwt, fvl, fpt) gmk gwt gvl gof) : RG S (W + 1) (fst, fwy, fmk, fwt, fvl, upd fpt (W * 7 + 3) 1) gmk gwt gvl (upd gof (8 * W + 3) 1) := by
  obtain ⟨f1, f2, f3, f4, f5, f6, f7, f8, f9⟩ := h
  refine ⟨f1, f2, f3, f4, f5, f6, f7, ⟨f8.1, f8.2.1, fun w hw => ?_⟩, fun w hw j hj => ?_⟩
  · have := f8.2.2 w hw
    obtain ⟨w0, w1, w2, w3, w4, w5⟩ := this
    simp only at w0 w1 w2 w3 w4 w5
    unfold WayOK
    simp only
    rw [upd_n (show w * 7 + 0 ≠ W * 7 + 3 by omega), upd_n (show w * 7 + 1 ≠ W * 7 + 3 by omega), upd_n (show w * 7 + 2 ≠ W * 7 + 3 by omega), upd_n (show w * 7 + 4 ≠ W * 7 + 3 by omega), upd_n (show w * 7 + 5 ≠ W * 7 + 3 by omega)]
    refine ⟨w0, w1, w2, ?_, w4, w5⟩
    by_cases hww : w = W
    · subst hww
      rw [upd_s]
      exact Or.inr rfl
    · rw [upd_n (by omega)]
      exact w3
  · show upd gof (8 * W + 3) 1 (8 * w + j) = upd fpt (W * 7 + 3) 1 (w * 7 + j)
    by_cases hc : w = W ∧ j = 3
    · obtain ⟨rfl, rfl⟩ := hc
      rw [upd_s, upd_s]
    · rw [upd_n (by omega), upd_n (by omega)]
      exact f9 w hw j hj
theorem RG_mask {fst fwy fmk fwt gmk gwt : Int32} {fvl fpt gvl gof : Nat → Int32} (h : RG S W (fst, fwy, fmk, fwt, fvl, fpt) gmk gwt gvl gof) {k w : Nat} (hk : k < 16) (hw : w < 17) : RG S W (fst, fwy, nI k, nI w, fvl, fpt) (nI k) (nI w) gvl gof := by
  obtain ⟨f1, f2, f3, f4, f5, f6, f7, f8, f9⟩ := h
  exact ⟨f1, f2, f3, f4, ⟨k, hk, rfl, rfl⟩, ⟨w, hw, rfl, rfl⟩, f7, f8, f9⟩
theorem RG_new {fvl fpt gvl gof : Nat → Int32} : RG 0 0 (0, 0, 0, 16, fvl, fpt) 0 16 gvl gof :=
  ⟨rfl, rfl, rfl, rfl, ⟨0, by omega, rfl, rfl⟩, ⟨16, by omega, rfl, rfl⟩, fun j hj => absurd hj (by omega), ⟨by omega, by omega, fun w hw => absurd hw (by omega)⟩, fun w hw => absurd hw (by omega)⟩
/-- the reference's clause by its word -/
def t6 (r1 mmk mwt mln mrs mrw mdo mnu : Int32) (mvl mof mtx mwd : Nat → Int32) (o9 o10 : Int32) : Option (Int32 × (Nat → Int32) × (Nat → Int32) × Int32 × Int32 × Int32 × Int32 × Int32 × Int32 × Int32) := (if r1 = 0 then ((f_X6_clears mmk mwt mdo).bind fun (o13, o14, o15, o16) => (some (1, mvl, mof, o13, o14, o9, o10, o15, o16, mnu))) else (if r1 = 1 then ((f_X6_takesState mln o9 o10 mrs mdo mnu mvl mtx).bind fun (r19, o20, o21, o22, o23, o24) => (gd (zok r19) (some (r19, o20, mof, mmk, mwt, o21, o22, o23, mrw, o24)))) else (if r1 = 2 then ((f_X6_takesWay mln o9 o10 mrs mrw mdo mnu mof mtx mwd).bind fun (r28, o29, o30, o31, o32, o33) => (gd (zok r28) (some (r28, mvl, o29, mmk, mwt, o30, o31, mrs, o32, o33)))) else (if r1 = 3 then (if mdo = 0 then (some (1, mvl, mof, mmk, mwt, o9, o10, mrs, mrw, mnu)) else (gd (iok ((((8 : Int32) * mrw) - 8) + 3) 96) (some (1, mvl, (upd mof (((((8 : Int32) * mrw) - 8) + 3).toNatClampNeg) 1), mmk, mwt, o9, o10, mrs, mrw, mnu)))) else ((f_X6_takesMask mmk mwt mln o9 o10 mdo mnu mtx).bind fun (r39, o40, o41, o42, o43, o44) => (gd (zok r39) (some (r39, mvl, mof, o40, o41, o42, o43, mrs, mrw, o44)))))))) 
theorem cl6 (mmk mwt mln mfi mbe mrs mrw mdo mnu : Int32) (mvl mof mtx mwd : Nat → Int32) : f_X6_takesClause mmk mwt mln mfi mbe mrs mrw mdo mnu mvl mof mtx mwd = ((f_X6_wordHere mln mfi mbe mtx mwd 0 5).bind fun r1 => if r1 = -1 ∨ (r1 = 1 ∧ 6 ≤ mrs) ∨ (r1 = 2 ∧ 12 ≤ mrw) ∨ (r1 = 3 ∧ mrw ≤ 0) then some (0, mvl, mof, mmk, mwt, mfi, mbe, mrs, mrw, mnu) else (f_X6_nextToken mln mbe mtx).bind fun (o9, o10) => t6 r1 mmk mwt mln mrs mrw mdo mnu mvl mof mtx mwd o9 o10) := by
  unfold f_X6_takesClause t6
  cases f_X6_wordHere mln mfi mbe mtx mwd 0 5 with
  | none => rfl
  | some r1 =>
    simp only [Option.bind_some]
    by_cases h1 : r1 = -1
    · rw [if_pos h1, if_pos (Or.inl h1)]
    · rw [if_neg h1]
      by_cases h2 : r1 = 1
      · rw [if_pos h2]
        by_cases h3 : 6 ≤ mrs
        · rw [if_pos h3, if_pos (Or.inr (Or.inl ⟨h2, h3⟩))]
        · rw [if_neg h3, if_neg (show ¬ (r1 = -1 ∨ (r1 = 1 ∧ 6 ≤ mrs) ∨ (r1 = 2 ∧ 12 ≤ mrw) ∨ (r1 = 3 ∧ mrw ≤ 0)) from fun z => by
            rcases z with z | z | z | z
            · exact h1 z
            · exact h3 z.2
            · rw [h2] at z; exact absurd z.1 (by decide)
            · rw [h2] at z; exact absurd z.1 (by decide))]
      · rw [if_neg h2]
        by_cases h3 : r1 = 2
        · rw [if_pos h3]
          by_cases h4 : 12 ≤ mrw
          · rw [if_pos h4, if_pos (Or.inr (Or.inr (Or.inl ⟨h3, h4⟩)))]
          · rw [if_neg h4, if_neg (show ¬ (r1 = -1 ∨ (r1 = 1 ∧ 6 ≤ mrs) ∨ (r1 = 2 ∧ 12 ≤ mrw) ∨ (r1 = 3 ∧ mrw ≤ 0)) from fun z => by
              rcases z with z | z | z | z
              · exact h1 z
              · exact h2 z.1
              · exact h4 z.2
              · rw [h3] at z; exact absurd z.1 (by decide))]
        · rw [if_neg h3]
          by_cases h4 : r1 = 3
          · rw [if_pos h4]
            by_cases h5 : mrw ≤ 0
            · rw [if_pos h5, if_pos (Or.inr (Or.inr (Or.inr ⟨h4, h5⟩)))]
            · rw [if_neg h5, if_neg (show ¬ (r1 = -1 ∨ (r1 = 1 ∧ 6 ≤ mrs) ∨ (r1 = 2 ∧ 12 ≤ mrw) ∨ (r1 = 3 ∧ mrw ≤ 0)) from fun z => by
                rcases z with z | z | z | z
                · exact h1 z
                · exact h2 z.1
                · exact h3 z.1
                · exact h5 z.2)]
          · rw [if_neg h4, if_neg (show ¬ (r1 = -1 ∨ (r1 = 1 ∧ 6 ≤ mrs) ∨ (r1 = 2 ∧ 12 ≤ mrw) ∨ (r1 = 3 ∧ mrw ≤ 0)) from fun z => by
              rcases z with z | z | z | z
              · exact h1 z
              · exact h2 z.1
              · exact h3 z.1
              · exact h4 z.1)]
end RF
