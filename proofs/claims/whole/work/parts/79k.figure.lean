/-! ===== fault and figure ===== -/
theorem cpy0 {f g : Nat → Int32} {n j : Nat} (h : j < n) : va_cpy f g 0 0 n j = f j := by
  rw [pk_cpy_in (by omega) (by omega), Nat.zero_add, Nat.sub_zero]
theorem do_fault {l : Launch} {D : va_G} {B : Nat} {adK adV : Nat → Nat} {cC cF cI cZ cM cS : ClassId} {xa : Nat} {ad : Nat → Nat} {ya : Nat} {am : Nat → Nat} {σ : XS} {τ : RS} (hR : RR σ τ) : B_fault l D B adK adV cC cF cI cZ cM cS xa ad ya am σ τ := by
  obtain ⟨⟨tln, tcl, tts, tte, tam, tlt, tsv⟩, ⟨tst, twy, tmk, twt, tvl, tpt⟩, ⟨dst, dwy, dmk, dwt, dvl, dpt⟩, now, guess, past, stored, ist, np, un, sh⟩ := σ
  obtain ⟨mst, mwy, mmk, mwt, mvl, mof, mw, mf, mun, mik, mtx, mln, mfi, mbe, mrs, mrw, mcl, mdo, mnu, mwd, msz, mso, mpl⟩ := τ
  obtain ⟨⟨n, hn, e1, e2, hT⟩, h2, h3, S, W, h4, h5⟩ := hR
  simp only at e1 e2 hT h2 h3 h4 h5
  have h4' := h4
  obtain ⟨f1, f2, f3, f4, -⟩ := h4'
  simp only at f1 f3
  subst e1 e2 f1 f2 f3 f4
  have hC : RG S W (nI S, nI W, tmk, twt, va_cpy tvl dvl 0 0 24, va_cpy tpt dpt 0 0 84) mmk mwt mvl mof := RG_copy h4 (fun j hj => cpy0 hj) (fun j hj => cpy0 hj)
  rcases rd_both (lt := tlt) (mtx := mtx) hT hn h2 hC tam mnu tsv with ⟨a', b', tsv', fvl', fpt', cl', tam', x1, x2, x3, x4, rs', rw', cl'', nu', i0, i1, i2⟩ | ⟨S', W', c', a', b', tsv', tam', fst', fwy', fmk', fwt', fvl', fpt', gmk', gwt', gvl', gof', nu', iG, i1, i2, -⟩
  · have e5 : f_X5_fault (nI n) tam tlt tsv (nI S) (nI W) tmk twt tvl tpt dvl dpt = some (nI a', tsv', fvl', fpt', cl', nI a', nI b', tam', x1, x2, x3, x4) := by
      unfold f_X5_fault f_X0_copyFrom
      simp only [Option.bind_some]
      rw [i1]
      rfl
    have e6 : f_X6_fault (nI S) (nI W) mmk mwt (nI n) mnu mvl mof mtx mwd = some (nI a', mvl, mof, mmk, mwt, nI a', nI b', rs', rw', cl'', 0, nu') := by
      unfold f_X6_fault
      rw [i2]
      rfl
    exact ⟨.int (nI a'), _, _, k_fault l D B adK adV cC cF cI cZ cM cS xa ad ((nI n, tcl, tts, tte, tam, tlt, tsv), (nI S, nI W, tmk, twt, tvl, tpt), (dst, dwy, dmk, dwt, dvl, dpt), now, guess, past, stored, ist, np, un, sh) (nI a', tsv', fvl', fpt', cl', nI a', nI b', tam', x1, x2, x3, x4) e5, k6_fault l D B adK adV cC cF cI cZ cM cS ya am (nI S, nI W, mmk, mwt, mvl, mof, mw, mf, mun, mik, mtx, nI n, mfi, mbe, mrs, mrw, mcl, mdo, mnu, mwd, msz, mso, mpl) (nI a', mvl, mof, mmk, mwt, nI a', nI b', rs', rw', cl'', 0, nu') e6, ⟨n, hn, rfl, rfl, hT⟩, h2, h3, S, W, h4, h5⟩
  · have e5 : f_X5_fault (nI n) tam tlt tsv (nI S) (nI W) tmk twt tvl tpt dvl dpt = some (-1, tsv', fvl', fpt', nI c', nI a', nI b', tam', fst', fwy', fmk', fwt') := by
      unfold f_X5_fault f_X0_copyFrom
      simp only [Option.bind_some]
      rw [i1]
      rfl
    have e6 : f_X6_fault (nI S) (nI W) mmk mwt (nI n) mnu mvl mof mtx mwd = some (-1, mvl, mof, mmk, mwt, nI a', nI b', nI S', nI W', nI c', 0, nu') := by
      unfold f_X6_fault
      rw [i2]
      rfl
    exact ⟨.int (-1), _, _, k_fault l D B adK adV cC cF cI cZ cM cS xa ad ((nI n, tcl, tts, tte, tam, tlt, tsv), (nI S, nI W, tmk, twt, tvl, tpt), (dst, dwy, dmk, dwt, dvl, dpt), now, guess, past, stored, ist, np, un, sh) (-1, tsv', fvl', fpt', nI c', nI a', nI b', tam', fst', fwy', fmk', fwt') e5, k6_fault l D B adK adV cC cF cI cZ cM cS ya am (nI S, nI W, mmk, mwt, mvl, mof, mw, mf, mun, mik, mtx, nI n, mfi, mbe, mrs, mrw, mcl, mdo, mnu, mwd, msz, mso, mpl) (-1, mvl, mof, mmk, mwt, nI a', nI b', nI S', nI W', nI c', 0, nu') e6, ⟨n, hn, rfl, rfl, hT⟩, h2, h3, S, W, h4, h5⟩
/-- the reference's start -/
theorem s6_L2 : ∀ (k n x : Nat) (mw : Nat → Int32), k = 14 - x → x ≤ 14 → k < n → ∃ mw', f_X6_starts_L2 n (nI x) mw = some (nI 14, mw') ∧ (∀ j, x ≤ j → j < 14 → mw' j = 0) ∧ (∀ j, j < x → mw' j = mw j) := by
  intro k
  induction k with
  | zero =>
    intro n x mw hk hx hn
    obtain ⟨n, rfl⟩ : ∃ m, n = m + 1 := ⟨n - 1, by omega⟩
    have : x = 14 := by omega
    subst this
    unfold f_X6_starts_L2
    rw [if_pos (show (14 : Int32) ≤ nI 14 by decide)]
    exact ⟨mw, rfl, fun j h1 h2 => by omega, fun j _ => rfl⟩
  | succ k ih =>
    intro n x mw hk hx hn
    obtain ⟨n, rfl⟩ : ∃ m, n = m + 1 := ⟨n - 1, by omega⟩
    unfold f_X6_starts_L2
    rw [if_neg (show ¬ (14 : Int32) ≤ nI x by show ¬ nI 14 ≤ nI x; rw [le_nI (by omega) (by omega)]; omega), gd_iok (by omega) (by omega), cl_nI (by omega), ad1]
    obtain ⟨mw', e, h1, h2⟩ := ih n (x + 1) (upd mw x 0) (by omega) (by omega) (by omega)
    refine ⟨mw', e, fun j h3 h4 => ?_, fun j h3 => by rw [h2 j (by omega), upd_n (by omega)]⟩
    by_cases hj : j = x
    · subst hj; rw [h2 j (by omega), upd_s]
    · exact h1 j (by omega) h4
theorem s6_L23 (mw : Nat → Int32) : ∀ (k n x : Nat) (mf : Nat → UInt32), k = 24 - x → x ≤ 24 → k < n → ∃ mf', f_X6_starts_L23 n (nI x) mf mw = some (nI 24, mw, mf') ∧ (∀ j, x ≤ j → j < 24 → mf' j = FP.fconst0) ∧ (∀ j, j < x → mf' j = mf j) := by
  intro k
  induction k with
  | zero =>
    intro n x mf hk hx hn
    obtain ⟨n, rfl⟩ : ∃ m, n = m + 1 := ⟨n - 1, by omega⟩
    have : x = 24 := by omega
    subst this
    unfold f_X6_starts_L23
    rw [if_pos (show (24 : Int32) ≤ nI 24 by decide)]
    exact ⟨mf, rfl, fun j h1 h2 => by omega, fun j _ => rfl⟩
  | succ k ih =>
    intro n x mf hk hx hn
    obtain ⟨n, rfl⟩ : ∃ m, n = m + 1 := ⟨n - 1, by omega⟩
    unfold f_X6_starts_L23
    rw [if_neg (show ¬ (24 : Int32) ≤ nI x by show ¬ nI 24 ≤ nI x; rw [le_nI (by omega) (by omega)]; omega), gd_iok (by omega) (by omega), cl_nI (by omega), ad1]
    obtain ⟨mf', e, h1, h2⟩ := ih n (x + 1) (vf_upd mf x FP.fconst0) (by omega) (by omega) (by omega)
    refine ⟨mf', e, fun j h3 h4 => ?_, fun j h3 => by rw [h2 j (by omega), vfu_n (by omega)]⟩
    by_cases hj : j = x
    · subst hj; rw [h2 j (by omega), vfu_s]
    · exact h1 j (by omega) h4
theorem s6_L44 (n : Nat) (mw : Nat → Int32) (mf : Nat → UInt32) : f_X6_starts_L44 (n + 3) (nI 0) mw mf = some (nI 2, upd (upd mw 4 (-1)) 9 (-1), vf_upd (vf_upd mf 0 FP.fconst1) 6 FP.fconst1) := by
  unfold f_X6_starts_L44
  rw [if_neg (show ¬ (2 : Int32) ≤ nI 0 by decide)]
  simp (disch := omega) only [l5, l4, l6, mu_nI, ad_nI, gd_iok, cl_nI, ad1]
  unfold f_X6_starts_L44
  rw [if_neg (show ¬ (2 : Int32) ≤ nI (0 + 1) by decide)]
  simp (disch := omega) only [l5, l4, l6, mu_nI, ad_nI, gd_iok, cl_nI, ad1]
  unfold f_X6_starts_L44
  rw [if_pos (show (2 : Int32) ≤ nI (0 + 1 + 1) by decide)]
theorem nar0 : vp_nar .boolean 0 = (0 : Int32) := by rfl
theorem s6_L83 (n : Nat) (mik mw : Nat → Int32) (mf : Nat → UInt32) : f_X6_starts_L83 (n + 3) (nI 0) mik mw mf = some (nI 2, mw, mf, upd (upd mik 0 0) 1 0) := by
  unfold f_X6_starts_L83
  rw [if_neg (show ¬ (2 : Int32) ≤ nI 0 by decide)]
  simp (disch := omega) only [gd_iok, cl_nI, ad1, nar0]
  unfold f_X6_starts_L83
  rw [if_neg (show ¬ (2 : Int32) ≤ nI (0 + 1) by decide)]
  simp (disch := omega) only [gd_iok, cl_nI, ad1, nar0]
  unfold f_X6_starts_L83
  rw [if_pos (show (2 : Int32) ≤ nI (0 + 1 + 1) by decide)]
theorem s6_L103 (n : Nat) (msz mw mik : Nat → Int32) (mf : Nat → UInt32) : f_X6_starts_L103 (n + 4) (nI 0) msz mw mf mik = some (nI 3, mw, mf, mik, upd (upd (upd msz 0 (-1)) 1 (-1)) 2 (-1)) := by
  unfold f_X6_starts_L103
  rw [if_neg (show ¬ (3 : Int32) ≤ nI 0 by decide)]
  simp (disch := omega) only [gd_iok, cl_nI, ad1]
  unfold f_X6_starts_L103
  rw [if_neg (show ¬ (3 : Int32) ≤ nI (0 + 1) by decide)]
  simp (disch := omega) only [gd_iok, cl_nI, ad1]
  unfold f_X6_starts_L103
  rw [if_neg (show ¬ (3 : Int32) ≤ nI (0 + 1 + 1) by decide)]
  simp (disch := omega) only [gd_iok, cl_nI, ad1]
  unfold f_X6_starts_L103
  rw [if_pos (show (3 : Int32) ≤ nI (0 + 1 + 1 + 1) by decide)]
def St6 (mw' : Nat → Int32) (mf' : Nat → UInt32) (mik' msz' : Nat → Int32) : Prop := (∀ j, j < 14 → mw' j = if j = 4 ∨ j = 9 then -1 else 0) ∧ (∀ j, j < 12 → mf' j = if j = 0 ∨ j = 6 then FP.fconst1 else FP.fconst0) ∧ (∀ k, k < 2 → mik' k = 0) ∧ ∀ k, k < 3 → msz' k = -1
theorem s6_starts (mw : Nat → Int32) (mf : Nat → UInt32) (mik msz : Nat → Int32) : ∃ mw' mf' mik' msz', f_X6_starts mw mf mik msz = some (mw', mf', mik', msz', 0) ∧ St6 mw' mf' mik' msz' := by
  obtain ⟨w1, e1, a1, -⟩ := s6_L2 14 1000 0 mw (by omega) (by omega) (by omega)
  obtain ⟨v1, e2, b1, -⟩ := s6_L23 w1 24 1000 0 mf (by omega) (by omega) (by omega)
  have e1' : f_X6_starts_L2 1000 0 mw = some (nI 14, w1) := e1
  have e2' : f_X6_starts_L23 1000 0 mf w1 = some (nI 24, w1, v1) := e2
  have e3' : f_X6_starts_L44 1000 0 w1 v1 = some (nI 2, upd (upd w1 4 (-1)) 9 (-1), vf_upd (vf_upd v1 0 FP.fconst1) 6 FP.fconst1) := s6_L44 997 w1 v1
  have e4' : ∀ w v, f_X6_starts_L83 1000 0 mik w v = some (nI 2, w, v, upd (upd mik 0 0) 1 0) := fun w v => s6_L83 997 mik w v
  have e5' : ∀ w v k, f_X6_starts_L103 1000 0 msz w v k = some (nI 3, w, v, k, upd (upd (upd msz 0 (-1)) 1 (-1)) 2 (-1)) := fun w v k => s6_L103 996 msz w k v
  refine ⟨upd (upd w1 4 (-1)) 9 (-1), vf_upd (vf_upd v1 0 FP.fconst1) 6 FP.fconst1, upd (upd mik 0 0) 1 0, upd (upd (upd msz 0 (-1)) 1 (-1)) 2 (-1), ?_, fun j hj => ?_, fun j hj => ?_, fun k hk => ?_, fun k hk => ?_⟩
  · unfold f_X6_starts
    rw [e1']
    simp only [Option.bind_some]
    rw [e2']
    simp only [Option.bind_some]
    rw [e3']
    simp only [Option.bind_some]
    rw [e4']
    simp only [Option.bind_some]
    rw [e5']
    rfl
  · simp only [upd_at]
    by_cases h9 : j = 9
    · rw [if_pos h9, if_pos (Or.inr h9)]
    · rw [if_neg h9]
      by_cases h4 : j = 4
      · rw [if_pos h4, if_pos (Or.inl h4)]
      · rw [if_neg h4, if_neg (fun z => z.elim h4 h9)]
        exact a1 j (by omega) hj
  · simp only [vfu_at]
    by_cases h9 : j = 6
    · rw [if_pos h9, if_pos (Or.inr h9)]
    · rw [if_neg h9]
      by_cases h4 : j = 0
      · rw [if_pos h4, if_pos (Or.inl h4)]
      · rw [if_neg h4, if_neg (fun z => z.elim h4 h9)]
        exact b1 j (by omega) (by omega)
  · simp only [upd_at]
    split
    · rfl
    · split
      · rfl
      · omega
  · simp only [upd_at]
    split
    · rfl
    · split
      · rfl
      · split
        · rfl
        · omega
/-- a motion at its start -/
def m00 (sh sb sh' sb' : Nat → UInt32) (nm : Nat → Int32) : AM := ((0, 0, none, sh, sb), (0, 0, none, sh', sb'), nm, 0)
theorem m00_ok {S W : Nat} {sh sb sh' sb' : Nat → UInt32} {nm : Nat → Int32} (h : ∀ s, s < 6 → sh s = if s = 0 then FP.fconst1 else FP.fconst0) (h' : ∀ s, s < 6 → sh' s = if s = 0 then FP.fconst1 else FP.fconst0) : MOK S W (m00 sh sb sh' sb' nm) := by
  have key : ∀ (f g : Nat → UInt32), (∀ s, s < 6 → f s = if s = 0 then FP.fconst1 else FP.fconst0) → ALOK S W (0, 0, none, f, g) := by
    intro f g hf
    refine ⟨?_, ?_, ?_, fun s hs => ?_, fun s hs hm => ?_⟩
    · show 0 < max S 1
      omega
    · show 0 ≤ 9999
      omega
    · trivial
    · show Sh (f s)
      rw [hf s hs]
      split
      · exact Sh_one
      · exact Sh_zero
    · show f s = _
      rw [hf s hs, if_neg (by omega)]
  exact ⟨key sh sb h, key sh' sb' h'⟩
theorem m00_mr {sh sb sh' sb' : Nat → UInt32} {nm : Nat → Int32} {mw mik msz : Nat → Int32} {mf : Nat → UInt32} (h : ∀ s, s < 6 → sh s = if s = 0 then FP.fconst1 else FP.fconst0) (h' : ∀ s, s < 6 → sh' s = if s = 0 then FP.fconst1 else FP.fconst0) (hn : ∀ k, k < 3 → nm k = 0) (hs : St6 mw mf mik msz) : MR (m00 sh sb sh' sb' nm) mw mf 0 := by
  obtain ⟨s1, s2, -, -⟩ := hs
  refine ⟨⟨?_, ?_, ?_, ?_, ?_, fun s hs => ?_, fun z => absurd rfl z⟩, ⟨?_, ?_, ?_, ?_, ?_, fun s hs => ?_, fun z => absurd rfl z⟩, fun k hk => ?_, ?_⟩
  · rw [s1 _ (by omega)]; rfl
  · rw [s1 _ (by omega)]; rfl
  · rw [s1 _ (by omega)]; rfl
  · rw [s1 _ (by omega)]; rfl
  · rw [s1 _ (by omega)]; rfl
  · show mf (24 * 0 + 6 * 0 + s) = sh s
    rw [show 24 * 0 + 6 * 0 + s = s by omega, s2 s (by omega), h s hs]
    by_cases h0 : s = 0
    · rw [if_pos h0, if_pos (Or.inl h0)]
    · rw [if_neg h0, if_neg (by omega)]
  · rw [s1 _ (by omega)]; rfl
  · rw [s1 _ (by omega)]; rfl
  · rw [s1 _ (by omega)]; rfl
  · rw [s1 _ (by omega)]; rfl
  · rw [s1 _ (by omega)]; rfl
  · show mf (24 * 0 + 6 * 1 + s) = sh' s
    rw [show 24 * 0 + 6 * 1 + s = 6 + s by omega, s2 _ (by omega), h' s hs]
    by_cases h0 : s = 0
    · rw [if_pos h0, if_pos (by omega)]
    · rw [if_neg h0, if_neg (by omega)]
  · show mw (14 * 0 + 10 + k) = nm k
    rw [s1 _ (by omega), hn k hk, if_neg (by omega)]
  · rw [s1 _ (by omega)]; rfl
theorem stl0 {sh : Nat → UInt32} : ∀ s, s < 6 → stl sh 0 s = if s = 0 then FP.fconst1 else FP.fconst0 := fun s hs => by unfold stl; rw [if_pos hs]
theorem e_begin (nlsh nush : Nat → UInt32) (nnm ist h0mk h1mk h2mk : Nat → Int32) : f_X5_beginAnew nlsh nush nnm ist h0mk h1mk h2mk = some (stl nlsh 0, stl nush 0, (fun j => if j < 3 then 0 else nnm j), upd (upd ist 0 0) 1 0, (fun j => if j < 8 then -15 else h0mk j), (fun j => if j < 8 then -15 else h1mk j), (fun j => if j < 8 then -15 else h2mk j), 0, 0, 0, 0, -1, 0, 0, 0, 0, -1, 0, 0, 1, 0, 0, 1, 0, 0, 1, 0, 0) := by
  have ps : ∀ sh, f_X1_settle 0 sh = some (stl sh 0, -1, 0, 0) := fun sh => p_settle (a := 0) (by omega) sh
  unfold f_X5_beginAnew f_X2_reset f_X1_reset f_X3_remove f_X3_makeNew
  simp only [ps, Option.bind_some, p_fillI (show 3 < 900 by omega), p_fillI (show 8 < 900 by omega), nar0]
set_option maxRecDepth 100000 in
theorem do_figure {l : Launch} {D : va_G} {B : Nat} {adK adV : Nat → Nat} {cC cF cI cZ cM cS : ClassId} {xa : Nat} {ad : Nat → Nat} {ya : Nat} {am : Nat → Nat} {σ : XS} {τ : RS} (hR : RR σ τ) : B_figure l D B adK adV cC cF cI cZ cM cS xa ad ya am σ τ := by
  obtain ⟨⟨tln, tcl, tts, tte, tam, tlt, tsv⟩, ⟨tst, twy, tmk, twt, tvl, tpt⟩, ⟨dst, dwy, dmk, dwt, dvl, dpt⟩, ⟨⟨p1, p2, p3, p4, p5, p6, p7⟩, ⟨q1, q2, q3, q4, q5, q6, q7⟩, nm, tr⟩, guess, past, stored, ist, np, un, sh⟩ := σ
  obtain ⟨mst, mwy, mmk, mwt, mvl, mof, mw, mf, mun, mik, mtx, mln, mfi, mbe, mrs, mrw, mcl, mdo, mnu, mwd, msz, mso, mpl⟩ := τ
  obtain ⟨⟨n, hn, e1, e2, hT⟩, h2, h3, S, W, h4, h5⟩ := hR
  simp only at e1 e2 hT h2 h3 h4 h5
  have h4' := h4
  obtain ⟨f1, f2, f3, f4, -⟩ := h4'
  simp only at f1 f3
  subst e1 e2 f1 f2 f3 f4
  have hC : RG S W (nI S, nI W, tmk, twt, va_cpy tvl dvl 0 0 24, va_cpy tpt dpt 0 0 84) mmk mwt mvl mof := RG_copy h4 (fun j hj => cpy0 hj) (fun j hj => cpy0 hj)
  rcases rd_both (lt := tlt) (mtx := mtx) hT hn h2 hC tam mnu tsv with ⟨a', b', tsv', fvl', fpt', cl', tam', x1, x2, x3, x4, rs', rw', cl'', nu', i0, i1, i2⟩ | ⟨S', W', c', a', b', tsv', tam', fst', fwy', fmk', fwt', fvl', fpt', gmk', gwt', gvl', gof', nu', iG, i1, i2, nu'', i3⟩
  · have e5 : f_X5_figure un (nI n) tam tlt tsv (nI S) (nI W) tmk twt tvl tpt dvl dpt tr p1 p2 p3 p4 p5 p6 q1 q2 q3 q4 q5 q6 nm ist (sh 0).1 (sh 0).2.1 (sh 0).2.2.1 (sh 0).2.2.2 (sh 1).1 (sh 1).2.1 (sh 1).2.2.1 (sh 1).2.2.2 (sh 2).1 (sh 2).2.1 (sh 2).2.2.1 (sh 2).2.2.2 = some (-4, tsv', tvl, tpt, fvl', fpt', p6, q6, nm, ist, (sh 0).2.2.2, (sh 1).2.2.2, (sh 2).2.2.2, un, nI n, cl', nI a', nI b', tam', nI S, nI W, tmk, twt, x1, x2, x3, x4, tr, p1, p2, p3, p4, p5, q1, q2, q3, q4, q5, (sh 0).1, (sh 0).2.1, (sh 0).2.2.1, (sh 1).1, (sh 1).2.1, (sh 1).2.2.1, (sh 2).1, (sh 2).2.1, (sh 2).2.2.1) := by
      unfold f_X5_figure f_X0_copyFrom
      simp only [Option.bind_some]
      rw [i1]
      simp only [Option.bind_some]
      rw [if_neg (m1_ne a' (by omega))]
    have e6 : f_X6_figure (nI S) (nI W) mmk mwt mun (nI n) mnu mvl mof mw mf mik mtx mwd msz = some (-4, mvl, mof, mw, mf, mik, msz, nI S, nI W, mmk, mwt, mun, nI n, nI a', nI b', rs', rw', cl'', 0, nu') := by
      unfold f_X6_figure
      rw [i2]
      rfl
    refine ⟨.int (-4), _, _, k_figure l D B adK adV cC cF cI cZ cM cS xa ad ((nI n, tcl, tts, tte, tam, tlt, tsv), (nI S, nI W, tmk, twt, tvl, tpt), (dst, dwy, dmk, dwt, dvl, dpt), ((p1, p2, p3, p4, p5, p6, p7), (q1, q2, q3, q4, q5, q6, q7), nm, tr), guess, past, stored, ist, np, un, sh) (-4, tsv', tvl, tpt, fvl', fpt', p6, q6, nm, ist, (sh 0).2.2.2, (sh 1).2.2.2, (sh 2).2.2.2, un, nI n, cl', nI a', nI b', tam', nI S, nI W, tmk, twt, x1, x2, x3, x4, tr, p1, p2, p3, p4, p5, q1, q2, q3, q4, q5, (sh 0).1, (sh 0).2.1, (sh 0).2.2.1, (sh 1).1, (sh 1).2.1, (sh 1).2.2.1, (sh 2).1, (sh 2).2.1, (sh 2).2.2.1) e5, k6_figure l D B adK adV cC cF cI cZ cM cS ya am (nI S, nI W, mmk, mwt, mvl, mof, mw, mf, mun, mik, mtx, nI n, mfi, mbe, mrs, mrw, mcl, mdo, mnu, mwd, msz, mso, mpl) (-4, mvl, mof, mw, mf, mik, msz, nI S, nI W, mmk, mwt, mun, nI n, nI a', nI b', rs', rw', cl'', 0, nu') e6, ⟨n, hn, rfl, rfl, hT⟩, h2, ?_, S, W, h4, h5⟩
    show RSh (va_up (va_up (va_up sh 0 (sh 0)) 1 (sh 1)) 2 (sh 2)) msz mso mpl
    rw [up_self, up_self, up_self]
    exact h3
  · obtain ⟨mw', mf', mik', msz', s1, s2⟩ := s6_starts mw mf mik msz
    have e5 : f_X5_figure un (nI n) tam tlt tsv (nI S) (nI W) tmk twt tvl tpt dvl dpt tr p1 p2 p3 p4 p5 p6 q1 q2 q3 q4 q5 q6 nm ist (sh 0).1 (sh 0).2.1 (sh 0).2.2.1 (sh 0).2.2.2 (sh 1).1 (sh 1).2.1 (sh 1).2.2.1 (sh 1).2.2.2 (sh 2).1 (sh 2).2.1 (sh 2).2.2.1 (sh 2).2.2.2 = some (nI c', tsv', va_cpy fvl' tvl 0 0 24, va_cpy fpt' tpt 0 0 84, fvl', fpt', stl p6 0, stl q6 0, (fun j => if j < 3 then 0 else nm j), upd (upd ist 0 0) 1 0, (fun j => if j < 8 then -15 else (sh 0).2.2.2 j), (fun j => if j < 8 then -15 else (sh 1).2.2.2 j), (fun j => if j < 8 then -15 else (sh 2).2.2.2 j), 0, 0, nI c', nI a', nI b', tam', fst', fwy', fmk', fwt', fst', fwy', fmk', fwt', 0, 0, 0, -1, 0, 0, 0, 0, -1, 0, 0, 1, 0, 0, 1, 0, 0, 1, 0, 0) := by
      unfold f_X5_figure f_X0_copyFrom
      simp only [Option.bind_some]
      rw [i1]
      simp only [Option.bind_some]
      simp only [if_true]
      rw [e_begin]
      rfl
    have e6 : f_X6_figure (nI S) (nI W) mmk mwt mun (nI n) mnu mvl mof mw mf mik mtx mwd msz = some (nI c', gvl', gof', mw', mf', mik', msz', nI S', nI W', gmk', gwt', 0, 0, nI a', nI b', nI S', nI W', nI c', 1, nu'') := by
      unfold f_X6_figure
      rw [i2]
      simp only [Option.bind_some]
      rw [if_neg o10, i3]
      simp only [Option.bind_some]
      rw [s1]
      rfl
    obtain ⟨u, p, m, hu, hp, eu, emu, ep, en, hok, hmr, hpa, hkp⟩ := h5
    refine ⟨.int (nI c'), _, _, k_figure l D B adK adV cC cF cI cZ cM cS xa ad ((nI n, tcl, tts, tte, tam, tlt, tsv), (nI S, nI W, tmk, twt, tvl, tpt), (dst, dwy, dmk, dwt, dvl, dpt), ((p1, p2, p3, p4, p5, p6, p7), (q1, q2, q3, q4, q5, q6, q7), nm, tr), guess, past, stored, ist, np, un, sh) (nI c', tsv', va_cpy fvl' tvl 0 0 24, va_cpy fpt' tpt 0 0 84, fvl', fpt', stl p6 0, stl q6 0, (fun j => if j < 3 then 0 else nm j), upd (upd ist 0 0) 1 0, (fun j => if j < 8 then -15 else (sh 0).2.2.2 j), (fun j => if j < 8 then -15 else (sh 1).2.2.2 j), (fun j => if j < 8 then -15 else (sh 2).2.2.2 j), 0, 0, nI c', nI a', nI b', tam', fst', fwy', fmk', fwt', fst', fwy', fmk', fwt', 0, 0, 0, -1, 0, 0, 0, 0, -1, 0, 0, 1, 0, 0, 1, 0, 0, 1, 0, 0) e5, k6_figure l D B adK adV cC cF cI cZ cM cS ya am (nI S, nI W, mmk, mwt, mvl, mof, mw, mf, mun, mik, mtx, nI n, mfi, mbe, mrs, mrw, mcl, mdo, mnu, mwd, msz, mso, mpl) (nI c', gvl', gof', mw', mf', mik', msz', nI S', nI W', gmk', gwt', 0, 0, nI a', nI b', nI S', nI W', nI c', 1, nu'') e6, ⟨0, by omega, rfl, rfl, fun j hj => absurd hj (by omega)⟩, h2, ?_, S', W', ?_, ?_⟩
    · intro i hi
      obtain rfl | rfl | rfl : i = 0 ∨ i = 1 ∨ i = 2 := by omega
      · exact Or.inl ⟨rfl, rfl, s2.2.2.2 0 (by omega)⟩
      · exact Or.inl ⟨rfl, rfl, s2.2.2.2 1 (by omega)⟩
      · exact Or.inl ⟨rfl, rfl, s2.2.2.2 2 (by omega)⟩
    · exact RG_copy iG (fun j hj => cpy0 hj) (fun j hj => cpy0 hj)
    · refine ⟨0, p, m00 (stl p6 0) p7 (stl q6 0) q7 (fun j => if j < 3 then 0 else nm j), by omega, hp, rfl, rfl, ep, rfl, m00_ok stl0 stl0, m00_mr stl0 stl0 (fun k hk => if_pos hk) s2, fun k hk => absurd hk (by omega), fun k hk => Or.inl ⟨?_, s2.2.2.1 k hk⟩⟩
      show upd (upd ist 0 0) 1 0 k = 0
      obtain rfl | rfl : k = 0 ∨ k = 1 := by omega
      · rfl
      · rfl
