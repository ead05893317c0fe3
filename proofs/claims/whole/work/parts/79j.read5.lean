/-! ===== reading: the whole text, in both ===== -/
def R6 (mln : Int32) (mtx : Nat → Int32) (d : Int32) (mwd : Nat → Int32) (m' : Nat) (mmk mwt mfi mbe mrs mrw mcl mnu : Int32) (mvl mof : Nat → Int32) : Option (Int32 × Int32 × Int32 × Int32 × Int32 × Int32 × Int32 × Int32 × Int32 × (Nat → Int32) × (Nat → Int32)) := (f_X6_takesClause mmk mwt mln mfi mbe mrs mrw d mnu mvl mof mtx mwd).bind fun (r5, o6, o7, o8, o9, o10, o11, o12, o13, o14) => f_X6_reads_L40 mln mtx d mwd m' r5 o8 o9 o10 o11 o12 o13 mcl o14 o6 o7
section RI
variable {lt mtx mwd : Nat → Int32} {n : Nat}
theorem L40_0 (mln : Int32) (d : Int32) (m' : Nat) (mmk mwt mfi mbe mrs mrw mcl mnu : Int32) (mvl mof : Nat → Int32) : f_X6_reads_L40 mln mtx d mwd (m' + 1) 0 mmk mwt mfi mbe mrs mrw mcl mnu mvl mof = some (0, mmk, mwt, mfi, mbe, mrs, mrw, mcl, mnu, mvl, mof) := by
  unfold f_X6_reads_L40
  rw [if_pos rfl]
theorem rd_both_L (hT : Tx lt mtx n) (hwd : WTab mwd) (mmk mwt : Int32) (mvl mof : Nat → Int32) : ∀ (m m' c a b S W : Nat) (tam mnu0 mnu1 fst fwy fmk fwt gmk gwt : Int32) (tsv fvl fpt gvl gof : Nat → Int32), 1 ≤ c → c ≤ 24 → 24 - c < m → 24 - c + 1 < m' → Tk lt n a b → RG S W (fst, fwy, fmk, fwt, fvl, fpt) gmk gwt gvl gof →
    (∃ a' b' tsv' fvl' fpt' cl' tam' x1 x2 x3 x4 rs' rw' cl'' nu', Tk lt n a' b' ∧ f_X4_readOnto_L14 (nI n) lt m (nI c) (nI a) (nI b) tam tsv fst fwy fmk fwt fvl fpt = some (nI a', tsv', fvl', fpt', cl', nI a', nI b', tam', x1, x2, x3, x4) ∧ R6 (nI n) mtx 0 mwd m' mmk mwt (nI a) (nI b) (nI S) (nI W) (nI c) mnu0 mvl mof = some (0, mmk, mwt, nI a', nI b', rs', rw', cl'', nu', mvl, mof)) ∨
    ∃ S' W' c' a' b' tsv' tam' fst' fwy' fmk' fwt' fvl' fpt' gmk' gwt' gvl' gof' nu' nu'', RG S' W' (fst', fwy', fmk', fwt', fvl', fpt') gmk' gwt' gvl' gof' ∧ f_X4_readOnto_L14 (nI n) lt m (nI c) (nI a) (nI b) tam tsv fst fwy fmk fwt fvl fpt = some (-1, tsv', fvl', fpt', nI c', nI a', nI b', tam', fst', fwy', fmk', fwt') ∧ R6 (nI n) mtx 0 mwd m' mmk mwt (nI a) (nI b) (nI S) (nI W) (nI c) mnu0 mvl mof = some (1, mmk, mwt, nI a', nI b', nI S', nI W', nI c', nu', mvl, mof) ∧ R6 (nI n) mtx 1 mwd m' gmk gwt (nI a) (nI b) (nI S) (nI W) (nI c) mnu1 gvl gof = some (1, gmk', gwt', nI a', nI b', nI S', nI W', nI c', nu'', gvl', gof') := by
  intro m
  induction m with
  | zero => intro m' c a b S W tam mnu0 mnu1 fst fwy fmk fwt gmk gwt tsv fvl fpt gvl gof _ _ hm; omega
  | succ m ih =>
    intro m' c a b S W tam mnu0 mnu1 fst fwy fmk fwt gmk gwt tsv fvl fpt gvl gof hc1 hc24 hm hm' hk hG
    obtain ⟨m', rfl⟩ : ∃ q, m' = q + 1 := ⟨m' - 1, by omega⟩
    have hn := hk.1
    unfold f_X4_readOnto_L14
    rw [if_neg (show ¬ (24 : Int32) < nI c by show ¬ nI 24 < nI c; rw [lt_nI (by omega) (by omega)]; omega)]
    unfold R6
    rcases cl_both hk hT hwd hG tam mnu0 mnu1 mmk mwt tsv mvl mof with ⟨a', b', tsv', fvl', fpt', tam', x1, x2, x3, x4, y1, y2, mnu', i0, i1, i2⟩ | ⟨S', W', a', b', tsv', tam', fst', fwy', fmk', fwt', fvl', fpt', gmk', gwt', gvl', gof', mnu', mnu'', i0, iG, i1, i2, i3⟩
    · refine Or.inl ⟨a', b', tsv', fvl', fpt', nI c, tam', x1, x2, x3, x4, y1, y2, nI c, mnu', i0, ?_, ?_⟩
      · rw [i1]
        rfl
      · rw [i2]
        exact L40_0 (nI n) 0 m' mmk mwt (nI a') (nI b') y1 y2 (nI c) mnu' mvl mof
    · rw [i1, i2, i3]
      simp only [Option.bind_some, if_neg o10]
      have ha' := i0.2.1
      unfold f_X4_isAtEnd f_X6_reads_L40
      simp only [if_neg o10]
      by_cases he : a' < n
      · rw [if_pos (show nI a' < nI n by rw [lt_nI (by omega) (by omega)]; exact he)]
        simp only [Option.bind_some, if_neg (show ¬ nI n ≤ nI a' by rw [le_nI (by omega) (by omega)]; omega), if_true]
        obtain ⟨m', rfl⟩ : ∃ q, m' = q + 1 := ⟨m' - 1, by omega⟩
        by_cases hcc : c = 24
        · subst hcc
          refine Or.inl ⟨a', b', tsv', fvl', fpt', nI 24, tam', fst', fwy', fmk', fwt', nI S', nI W', nI 24, mnu', i0, ?_, ?_⟩
          · rw [if_pos (show nI 24 = 24 from rfl)]
          · rw [if_pos (show (24 : Int32) ≤ nI 24 by decide)]
            exact L40_0 (nI n) 0 m' mmk mwt (nI a') (nI b') (nI S') (nI W') (nI 24) mnu' mvl mof
        · rw [if_neg (show ¬ nI c = 24 by show ¬ nI c = nI 24; rw [eq_nI (by omega) (by omega)]; exact hcc)]
          simp only [if_neg (show ¬ (24 : Int32) ≤ nI c by show ¬ nI 24 ≤ nI c; rw [le_nI (by omega) (by omega)]; omega)]
          rw [q_isSign i0 59 (by decide)]
          simp only [Option.bind_some, gd_iok (show a' < 200 by omega) (show 200 < 2147483648 by omega), cl_nI (show a' < 2147483648 by omega)]
          by_cases hs : lt a' = 59
          · have hs6 : mtx a' = 59 := by rw [← hT a' he]; exact hs
            rw [decide_eq_true ⟨he, hs⟩]
            simp only [if_neg (show ¬ bI true = 0 by decide), if_pos hs6]
            rw [q_adv i0, q6_adv i0 hT]
            simp only [Option.bind_some, ad1]
            exact ih (m' + 1) (c + 1) _ _ S' W' tam' mnu' mnu'' fst' fwy' fmk' fwt' gmk' gwt' tsv' fvl' fpt' gvl' gof' (by omega) (by omega) (by omega) (by omega) i0.nx iG
          · have hs6 : ¬ mtx a' = 59 := by rw [← hT a' he]; exact hs
            rw [decide_eq_false (fun z => hs z.2)]
            simp only [if_pos (show bI false = 0 from rfl), if_neg hs6]
            refine Or.inl ⟨a', b', tsv', fvl', fpt', nI c, tam', fst', fwy', fmk', fwt', nI S', nI W', nI c, mnu', i0, rfl, ?_⟩
            exact L40_0 (nI n) 0 m' mmk mwt (nI a') (nI b') (nI S') (nI W') (nI c) mnu' mvl mof
      · rw [if_neg (show ¬ nI a' < nI n by rw [lt_nI (by omega) (by omega)]; exact he)]
        simp only [Option.bind_some, if_pos (show nI n ≤ nI a' by rw [le_nI (by omega) (by omega)]; omega), if_neg o10]
        exact Or.inr ⟨S', W', c, a', b', tsv', tam', fst', fwy', fmk', fwt', fvl', fpt', gmk', gwt', gvl', gof', mnu', mnu'', iG, rfl, rfl, rfl⟩
theorem RG_copy {S W : Nat} {fst fwy fmk fwt gmk gwt : Int32} {fvl fpt fvl' fpt' gvl gof : Nat → Int32} (h : RG S W (fst, fwy, fmk, fwt, fvl, fpt) gmk gwt gvl gof) (hv : ∀ j, j < 24 → fvl' j = fvl j) (hp : ∀ j, j < 84 → fpt' j = fpt j) : RG S W (fst, fwy, fmk, fwt, fvl', fpt') gmk gwt gvl gof := by
  obtain ⟨f1, f2, f3, f4, f5, f6, f7, f8, f9⟩ := h
  have hS := f8.1
  have hW := f8.2.1
  refine ⟨f1, f2, f3, f4, f5, f6, fun j hj => ?_, ⟨f8.1, f8.2.1, fun w hw => ?_⟩, fun w hw j hj => ?_⟩
  · show fvl' j = gvl j ∧ VOK (gvl j)
    rw [hv j (by omega)]
    exact f7 j hj
  · have := f8.2.2 w hw
    unfold WayOK at this ⊢
    simp only at this ⊢
    rw [hp _ (by omega), hp _ (by omega), hp _ (by omega), hp _ (by omega), hp _ (by omega), hp _ (by omega)]
    exact this
  · show gof (8 * w + j) = fpt' (w * 7 + j)
    rw [hp _ (by omega)]
    exact f9 w hw j hj
/-- the whole text, in both: read onto a copy of the figure told -/
theorem rd_both (hT : Tx lt mtx n) (hn : n ≤ 200) (hwd : WTab mwd) {S W : Nat} {fst fwy fmk fwt gmk gwt : Int32} {fvl fpt gvl gof : Nat → Int32} (hG : RG S W (fst, fwy, fmk, fwt, fvl, fpt) gmk gwt gvl gof) (tam mnu0 : Int32) (tsv : Nat → Int32) :
    (∃ a' b' tsv' fvl' fpt' cl' tam' x1 x2 x3 x4 rs' rw' cl'' nu', a' ≤ 200 ∧ f_X4_readOnto (nI n) tam lt tsv fst fwy fmk fwt fvl fpt = some (nI a', tsv', fvl', fpt', cl', nI a', nI b', tam', x1, x2, x3, x4) ∧ f_X6_reads (nI S) (nI W) gmk gwt (nI n) mnu0 gvl gof mtx mwd 0 = some (0, gvl, gof, gmk, gwt, nI a', nI b', rs', rw', cl'', 0, nu')) ∨
    ∃ S' W' c' a' b' tsv' tam' fst' fwy' fmk' fwt' fvl' fpt' gmk' gwt' gvl' gof' nu', RG S' W' (fst', fwy', fmk', fwt', fvl', fpt') gmk' gwt' gvl' gof' ∧ f_X4_readOnto (nI n) tam lt tsv fst fwy fmk fwt fvl fpt = some (-1, tsv', fvl', fpt', nI c', nI a', nI b', tam', fst', fwy', fmk', fwt') ∧ f_X6_reads (nI S) (nI W) gmk gwt (nI n) mnu0 gvl gof mtx mwd 0 = some (1, gvl, gof, gmk, gwt, nI a', nI b', nI S', nI W', nI c', 0, nu') ∧ ∃ nu'', f_X6_reads (nI S) (nI W) gmk gwt (nI n) nu' gvl gof mtx mwd 1 = some (1, gvl', gof', gmk', gwt', nI a', nI b', nI S', nI W', nI c', 1, nu'') := by
  have hk : Tk lt n (tsta lt n 0) (tend lt n (tsta lt n 0)) := ⟨hn, (tsta_in (by omega)).2, rfl⟩
  have A : f_X4_advance (nI n) 0 lt = some (nI (tsta lt n 0), nI (tend lt n (tsta lt n 0))) := q_advance (p := 0) hn (by omega)
  have A6 : f_X6_nextToken (nI n) 0 mtx = some (nI (tsta lt n 0), nI (tend lt n (tsta lt n 0))) := by
    have e : tsta lt n 0 = tsta mtx n 0 := tsta_congr hT (by omega)
    have q := q6_nextToken (lt := mtx) (n := n) (p := 0) hn (by omega)
    rw [← e, ← tend_congr hT] at q
    exact q
  generalize tsta lt n 0 = a at A A6 hk
  generalize tend lt n a = b at A A6 hk
  have z0 : zok 0 := Or.inl rfl
  have z1 : zok 1 := Or.inr rfl
  have key : ∀ (d mnu : Int32), zok d → f_X6_reads (nI S) (nI W) gmk gwt (nI n) mnu gvl gof mtx mwd d = (R6 (nI n) mtx d mwd 1000 gmk gwt (nI a) (nI b) (nI S) (nI W) 1 mnu gvl gof).bind fun (q38, q39, q40, q41, q42, q43, q44, q45, q46, q47, q48) => (gd (zok q38) (some (q38, q47, q48, q39, q40, q41, q42, q43, q44, q45, d, q46))) := by
    intro d mnu hd
    unfold f_X6_reads R6
    rw [gd_t hd, A6]
    simp only [Option.bind_some]
    cases f_X6_takesClause gmk gwt (nI n) (nI a) (nI b) (nI S) (nI W) d mnu gvl gof mtx mwd with
    | none => simp only [Option.bind_none]
    | some o =>
      obtain ⟨o1, o2, o3, o4, o5, o6, o7, o8, o9, o10⟩ := o
      simp only [Option.bind_some]
  have K5 : f_X4_readOnto (nI n) tam lt tsv fst fwy fmk fwt fvl fpt = f_X4_readOnto_L14 (nI n) lt 1000 1 (nI a) (nI b) tam tsv fst fwy fmk fwt fvl fpt := by
    unfold f_X4_readOnto
    rw [A]
    simp only [Option.bind_some]
  rw [K5, key 0 mnu0 z0]
  have L := fun mnu1 => rd_both_L hT hwd gmk gwt gvl gof 1000 1000 1 a b S W tam mnu0 mnu1 fst fwy fmk fwt gmk gwt tsv fvl fpt gvl gof (by omega) (by omega) (by omega) (by omega) hk hG
  simp only [show nI 1 = (1 : Int32) from rfl] at L
  rcases L mnu0 with ⟨a', b', tsv', fvl', fpt', cl', tam', x1, x2, x3, x4, rs', rw', cl'', nu', i0, i1, i2⟩ | ⟨S', W', c', a', b', tsv', tam', fst', fwy', fmk', fwt', fvl', fpt', gmk', gwt', gvl', gof', nu', nu'', iG, i1, i2, -⟩
  · refine Or.inl ⟨a', b', tsv', fvl', fpt', cl', tam', x1, x2, x3, x4, rs', rw', cl'', nu', Nat.le_trans i0.2.1 hn, i1, ?_⟩
    rw [i2]
    simp only [Option.bind_some]
    rw [gd_t z0]
  · rcases L nu' with ⟨a2, b2, tsv2, fvl2, fpt2, cl2, tam2, x1, x2, x3, x4, rs2, rw2, cl3, nu2, j0, j1, j2⟩ | ⟨S2, W2, c2, a2, b2, tsv2, tam2, fst2, fwy2, fmk2, fwt2, fvl2, fpt2, gmk2, gwt2, gvl2, gof2, nu2, nu3, jG, j1, j2, j3⟩
    · exfalso
      rw [i2] at j2
      have := congrArg (fun o => o.map Prod.fst) j2
      have e10 : (1 : Int32) = 0 := Option.some.inj this
      exact absurd e10 (by decide)
    · refine Or.inr ⟨S2, W2, c2, a2, b2, tsv2, tam2, fst2, fwy2, fmk2, fwt2, fvl2, fpt2, gmk2, gwt2, gvl2, gof2, nu2, jG, j1, ?_, nu3, ?_⟩
      · rw [j2]
        simp only [Option.bind_some]
        rw [gd_t z1]
      · have e : nu2 = nu' := by
          rw [i2] at j2
          have := congrArg (fun o => o.map (fun q => q.2.2.2.2.2.2.2.2.1)) j2
          exact (Option.some.inj this).symm
        rw [key 1 nu2 z1, e, j3]
        simp only [Option.bind_some]
        rw [gd_t z1]
end RI
