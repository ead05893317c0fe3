/-! ===== until, pulled, layer, share ===== -/
theorem isLy_lo {i : Int32} (h : i < 0) : f_X5_isLayer i = some 0 ∧ f_X6_isLayer i = some 0 := by
  unfold f_X5_isLayer f_X6_isLayer
  rw [if_pos h, (isKp_lo h).2]
  exact ⟨rfl, rfl⟩
theorem isLy_hi {i : Int32} (h : nI 2 ≤ i) : f_X5_isLayer i = some 0 ∧ f_X6_isLayer i = some 0 := by
  unfold f_X5_isLayer f_X6_isLayer
  rw [if_neg (ge_neg (by omega) h), if_pos (show (2 : Int32) ≤ i from h), (isKp_hi h).2]
  exact ⟨rfl, rfl⟩
theorem isLy_ok {j : Nat} (h : j < 2) : f_X5_isLayer (nI j) = some 1 ∧ f_X6_isLayer (nI j) = some 1 := by
  unfold f_X5_isLayer f_X6_isLayer
  rw [if_neg (nneg (by omega)), if_neg (show ¬ (2 : Int32) ≤ nI j by show ¬ nI 2 ≤ nI j; rw [le_nI (by omega) (by omega)]; omega), (isKp_ok h).2]
  exact ⟨rfl, rfl⟩
def lyA (m : AM) (a : Nat) : AL := if a = 0 then m.1 else m.2.1
theorem lyA_LR {m : AM} {mw : Nat → Int32} {mf : Nat → UInt32} {r a : Nat} (h : MR m mw mf r) (ha : a < 2) : LR (lyA m a) mw mf r a := by
  obtain rfl | rfl : a = 0 ∨ a = 1 := by omega
  · exact h.1
  · exact h.2.1
theorem lyA_ok {S W : Nat} {m : AM} {a : Nat} (h : MOK S W m) (ha : a < 2) : ALOK S W (lyA m a) := by
  obtain rfl | rfl : a = 0 ∨ a = 1 := by omega
  · exact h.1
  · exact h.2
theorem s_until {S W a b : Nat} {pt nm mof : Nat → Int32} (ha : a < 2) (hb : b < 6) (hF : FigOK S W (fun w k => pt (w * 7 + k))) (hW : WR W (fun w k => pt (w * 7 + k)) mof) : ∀ (k n n' x : Nat) (m : AM) (mw : Nat → Int32) (mf : Nat → UInt32), k = 300 - x → x ≤ 300 → k + 1 < n → k < n' → MOK S W m → m.2.2.1 = nm → MR m mw mf 1 →
    ∃ (r : Int32) (zz : (Nat → UInt32) × (Nat → UInt32) × (Nat → UInt32) × (Nat → UInt32) × (Nat → Int32) × Int32 × Int32 × Int32 × Int32 × Int32 × Int32 × Int32 × Int32 × Int32 × Int32 × Int32) (mw' : Nat → Int32) (mf' : Nat → UInt32), f_X5_until_L31 nm (nI a) (nI b) (nI W) pt n (nI x) m.2.2.2 (nI m.1.1) (nI m.1.2.1) (bwI m.1.2.2.1) (bfI m.1.2.2.1) (bdI m.1.2.2.1) m.1.2.2.2.1 m.1.2.2.2.2 (nI m.2.1.1) (nI m.2.1.2.1) (bwI m.2.1.2.2.1) (bfI m.2.1.2.2.1) (bdI m.2.1.2.2.1) m.2.1.2.2.2.1 m.2.1.2.2.2.2 = some (r, zz) ∧ f_X6_until_L26 (nI a) (nI b) (nI W) mof n' (nI x) mw mf = some (r, mw', mf') ∧ ∀ q, q ≠ 1 → SR mw mw' mf mf' q q := by
  intro k
  induction k with
  | zero =>
    intro n n' x m mw mf hk hx hn hn' ho hm hr
    obtain ⟨n, rfl⟩ : ∃ q, n = q + 2 := ⟨n - 2, by omega⟩
    obtain ⟨n', rfl⟩ : ∃ q, n' = q + 1 := ⟨n' - 1, by omega⟩
    have : x = 300 := by omega
    subst this
    subst hm
    have hst := (lyA_LR hr ha).1
    have hlt : (lyA m a).1 < 2147483648 := by have := (lyA_ok ho ha).1; have := hF.1; omega
    unfold f_X6_until_L26
    simp (disch := omega) only [l14, l5, mu_nI, ad_nI, ad0, cl_nI, gd_iok]
    rw [show mw (14 + 5 * a) = nI (lyA m a).1 from hst]
    unfold f_X5_until_L31
    rw [if_neg (show ¬ (300 : Int32) < nI 300 by decide)]
    by_cases he : nI (lyA m a).1 = nI b
    · rw [if_pos he]
      obtain rfl | rfl : a = 0 ∨ a = 1 := by omega
      · rw [if_pos (show nI 0 = 0 from rfl)]
        show ∃ r zz mw' mf', (if nI m.1.1 = nI b then _ else _) = _ ∧ _
        rw [if_pos (show nI m.1.1 = nI b from he)]
        exact ⟨_, _, _, _, rfl, rfl, fun q _ => SR.rf⟩
      · rw [if_neg (show ¬ nI 1 = 0 by decide), if_pos (show nI 1 = 1 from rfl)]
        show ∃ r zz mw' mf', (if nI m.2.1.1 = nI b then _ else _) = _ ∧ _
        rw [if_pos (show nI m.2.1.1 = nI b from he)]
        exact ⟨_, _, _, _, rfl, rfl, fun q _ => SR.rf⟩
    · rw [if_neg he, if_pos (show nI 300 = 300 from rfl)]
      obtain rfl | rfl : a = 0 ∨ a = 1 := by omega
      · rw [if_pos (show nI 0 = 0 from rfl)]
        show ∃ r zz mw' mf', (if nI m.1.1 = nI b then _ else _) = _ ∧ _
        rw [if_neg (show ¬ nI m.1.1 = nI b from he), p_mgoOn hF ho]
        exact ⟨-1, _, _, _, rfl, rfl, fun q _ => SR.rf⟩
      · rw [if_neg (show ¬ nI 1 = 0 by decide), if_pos (show nI 1 = 1 from rfl)]
        show ∃ r zz mw' mf', (if nI m.2.1.1 = nI b then _ else _) = _ ∧ _
        rw [if_neg (show ¬ nI m.2.1.1 = nI b from he), p_mgoOn hF ho]
        exact ⟨-1, _, _, _, rfl, rfl, fun q _ => SR.rf⟩
  | succ k ih =>
    intro n n' x m mw mf hk hx hn hn' ho hm hr
    obtain ⟨n, rfl⟩ : ∃ q, n = q + 1 := ⟨n - 1, by omega⟩
    obtain ⟨n', rfl⟩ : ∃ q, n' = q + 1 := ⟨n' - 1, by omega⟩
    subst hm
    have hst := (lyA_LR hr ha).1
    obtain ⟨mw1, mf1, a1, a2, a3⟩ := p6_frame hF hW (show 1 < 12 by omega) ho hr
    obtain ⟨r, zz, mw2, mf2, b1, b2, b3⟩ := ih n n' (x + 1) (mstep (fun w k => pt (w * 7 + k)) W m) mw1 mf1 (by omega) (by omega) (by omega) (by omega) (mstep_ok hF ho) rfl a2
    unfold f_X6_until_L26
    simp (disch := omega) only [l14, l5, mu_nI, ad_nI, ad0, cl_nI, gd_iok]
    rw [show mw (14 + 5 * a) = nI (lyA m a).1 from hst]
    unfold f_X5_until_L31
    rw [if_neg (show ¬ (300 : Int32) < nI x by show ¬ nI 300 < nI x; rw [lt_nI (by omega) (by omega)]; omega)]
    by_cases he : nI (lyA m a).1 = nI b
    · rw [if_pos he]
      obtain rfl | rfl : a = 0 ∨ a = 1 := by omega
      · rw [if_pos (show nI 0 = 0 from rfl)]
        show ∃ r zz mw' mf', (if nI m.1.1 = nI b then _ else _) = _ ∧ _
        rw [if_pos (show nI m.1.1 = nI b from he)]
        exact ⟨_, _, _, _, rfl, rfl, fun q _ => SR.rf⟩
      · rw [if_neg (show ¬ nI 1 = 0 by decide), if_pos (show nI 1 = 1 from rfl)]
        show ∃ r zz mw' mf', (if nI m.2.1.1 = nI b then _ else _) = _ ∧ _
        rw [if_pos (show nI m.2.1.1 = nI b from he)]
        exact ⟨_, _, _, _, rfl, rfl, fun q _ => SR.rf⟩
    · rw [if_neg he, if_neg (show ¬ nI x = 300 by show ¬ nI x = nI 300; rw [eq_nI (by omega) (by omega)]; omega)]
      rw [show f_X6_frame (nI W) mof mw mf 1 = f_X6_frame (nI W) mof mw mf (nI 1) from rfl, a1, ad1]
      have B2 : f_X6_until_L26 (nI a) (nI b) (nI W) mof n' (nI (x + 1)) mw1 mf1 = some (r, mw2, mf2) := b2
      obtain rfl | rfl : a = 0 ∨ a = 1 := by omega
      · rw [if_pos (show nI 0 = 0 from rfl)]
        show ∃ r zz mw' mf', (if nI m.1.1 = nI b then _ else _) = _ ∧ _
        rw [if_neg (show ¬ nI m.1.1 = nI b from he), p_mgoOn hF ho]
        exact ⟨r, zz, mw2, mf2, b1, B2, fun q hq => (a3 q hq).tr (b3 q hq)⟩
      · rw [if_neg (show ¬ nI 1 = 0 by decide), if_pos (show nI 1 = 1 from rfl)]
        show ∃ r zz mw' mf', (if nI m.2.1.1 = nI b then _ else _) = _ ∧ _
        rw [if_neg (show ¬ nI m.2.1.1 = nI b from he), p_mgoOn hF ho]
        exact ⟨r, zz, mw2, mf2, b1, B2, fun q hq => (a3 q hq).tr (b3 q hq)⟩
theorem p_copy2 (d : MoT) (m : AM) : f_X2_copyFrom d.1.2.2.2.2.2.1 d.1.2.2.2.2.2.2 d.2.1.2.2.2.2.2.1 d.2.1.2.2.2.2.2.2 d.2.2.1 m.2.2.2 (nI m.1.1) (nI m.1.2.1) (bwI m.1.2.2.1) (bfI m.1.2.2.1) (bdI m.1.2.2.1) m.1.2.2.2.1 m.1.2.2.2.2 (nI m.2.1.1) (nI m.2.1.2.1) (bwI m.2.1.2.2.1) (bfI m.2.1.2.2.1) (bdI m.2.1.2.2.1) m.2.1.2.2.2.1 m.2.1.2.2.2.2 m.2.2.1 = some ((cpM d m).1.2.2.2.1, (cpM d m).1.2.2.2.2, (cpM d m).2.1.2.2.2.1, (cpM d m).2.1.2.2.2.2, (cpM d m).2.2.1, (cpM d m).2.2.2, nI (cpM d m).1.1, nI (cpM d m).1.2.1, bwI (cpM d m).1.2.2.1, bfI (cpM d m).1.2.2.1, bdI (cpM d m).1.2.2.1, nI (cpM d m).2.1.1, nI (cpM d m).2.1.2.1, bwI (cpM d m).2.1.2.2.1, bfI (cpM d m).2.1.2.2.1, bdI (cpM d m).2.1.2.2.1) := rfl
set_option maxRecDepth 100000 in
theorem do_until {l : Launch} {D : va_G} {B : Nat} {adK adV : Nat → Nat} {cC cF cI cZ cM cS : ClassId} {xa : Nat} {ad : Nat → Nat} {ya : Nat} {am : Nat → Nat} {σ : XS} {τ : RS} (hR : RR σ τ) (i k : Int32) : B_until l D B adK adV cC cF cI cZ cM cS xa ad ya am i k σ τ := by
  obtain ⟨tx, told, draft, now, guess, past, stored, ist, np, un, sh⟩ := σ
  obtain ⟨mst, mwy, mmk, mwt, mvl, mof, mw, mf, mun, mik, mtx, mln, mfi, mbe, mrs, mrw, mcl, mdo, mnu, mwd, msz, mso, mpl⟩ := τ
  obtain ⟨h1, h2, h3, S, W, h4, u, p, m, hu, hp, eu, emu, ep, en, hok, hmr, hpa, hkp⟩ := hR
  simp only at h1 h2 h3 h4 eu emu ep en hmr hpa hkp
  subst eu emu ep en
  obtain ⟨tst, twy, tmk, twt, tvl, tpt⟩ := told
  have h4' := h4
  obtain ⟨f1, f2, f3, f4, -, -, -, f8, f9⟩ := h4
  simp only at f1 f3 f8 f9
  subst f1 f2 f3 f4
  have hS := f8.1
  have fin : ∀ (r : Int32) (zz : (Nat → UInt32) × (Nat → UInt32) × (Nat → UInt32) × (Nat → UInt32) × (Nat → Int32) × Int32 × Int32 × Int32 × Int32 × Int32 × Int32 × Int32 × Int32 × Int32 × Int32 × Int32) (mw' : Nat → Int32) (mf' : Nat → UInt32), f_X5_until (nI S) (nI W) tpt m.2.2.2 (nI m.1.1) (nI m.1.2.1) (bwI m.1.2.2.1) (bfI m.1.2.2.1) (bdI m.1.2.2.1) m.1.2.2.2.1 m.1.2.2.2.2 (nI m.2.1.1) (nI m.2.1.2.1) (bwI m.2.1.2.2.1) (bfI m.2.1.2.2.1) (bdI m.2.1.2.2.1) m.2.1.2.2.2.1 m.2.1.2.2.2.2 m.2.2.1 guess.2.2.2 guess.1.1 guess.1.2.1 guess.1.2.2.1 guess.1.2.2.2.1 guess.1.2.2.2.2.1 guess.1.2.2.2.2.2.1 guess.1.2.2.2.2.2.2 guess.2.1.1 guess.2.1.2.1 guess.2.1.2.2.1 guess.2.1.2.2.2.1 guess.2.1.2.2.2.2.1 guess.2.1.2.2.2.2.2.1 guess.2.1.2.2.2.2.2.2 guess.2.2.1 i k = some (r, zz) → f_X6_until (nI S) (nI W) mof mw mf i k = some (r, mw', mf') → (∀ q, q ≠ 1 → SR mw mw' mf mf' q q) → B_until l D B adK adV cC cF cI cZ cM cS xa ad ya am i k (tx, (nI S, nI W, tmk, twt, tvl, tpt), draft, moT m, guess, past, stored, ist, nI p, nI u, sh) (nI S, nI W, mmk, mwt, mvl, mof, mw, mf, nI u, mik, mtx, mln, mfi, mbe, mrs, mrw, mcl, mdo, mnu, mwd, msz, mso, mpl) := by
    intro r zz mw' mf' e1 e2 e3
    exact ⟨.int r, _, _, k_until l D B adK adV cC cF cI cZ cM cS xa ad (tx, (nI S, nI W, tmk, twt, tvl, tpt), draft, moT m, guess, past, stored, ist, nI p, nI u, sh) i k (r, zz) e1, k6_until l D B adK adV cC cF cI cZ cM cS ya am (nI S, nI W, mmk, mwt, mvl, mof, mw, mf, nI u, mik, mtx, mln, mfi, mbe, mrs, mrw, mcl, mdo, mnu, mwd, msz, mso, mpl) i k (r, mw', mf') e2, h1, h2, h3, S, W, h4', u, p, m, hu, hp, rfl, rfl, rfl, rfl, hok, MR_row hmr (e3 0 (by omega)), RPa_row hpa (fun k hk => e3 _ (by omega)), RKp_row hkp (fun k hk => e3 _ (by omega))⟩
  rcases ix_cases i 2 (by omega) with hi | hi | ⟨a, ha, rfl⟩
  · exact fin (-2) _ mw mf (by unfold f_X5_until; rw [(isLy_lo hi).1]; rfl) (by unfold f_X6_until; rw [(isLy_lo hi).2]; rfl) (fun q _ => SR.rf)
  · exact fin (-2) _ mw mf (by unfold f_X5_until; rw [(isLy_hi hi).1]; rfl) (by unfold f_X6_until; rw [(isLy_hi hi).2]; rfl) (fun q _ => SR.rf)
  · rcases ix_cases k S (by omega) with hi | hi | ⟨b, hb, rfl⟩
    · exact fin (-2) _ mw mf (by unfold f_X5_until; rw [(isLy_ok ha).1, (isSt_lo hi).1]; rfl) (by unfold f_X6_until; rw [(isLy_ok ha).2, (isSt_lo hi).2]; rfl) (fun q _ => SR.rf)
    · exact fin (-2) _ mw mf (by unfold f_X5_until; rw [(isLy_ok ha).1, (isSt_hi (by omega) hi).1]; rfl) (by unfold f_X6_until; rw [(isLy_ok ha).2, (isSt_hi (by omega) hi).2]; rfl) (fun q _ => SR.rf)
    · obtain ⟨mw1, mf1, c1, c2, c3⟩ := p6_copy (mw := mw) (mf := mf) (r := 0) (r' := 1) (by omega) (by omega) (by omega)
      obtain ⟨r, zz, mw2, mf2, b1, b2, b3⟩ := s_until (a := a) (b := b) ha (by omega) f8 f9 300 1000 1000 0 (cpM guess m) mw1 mf1 (by omega) (by omega) (by omega) (by omega) (cpM_ok hok) rfl (MR_row (cpM_MR hmr) c2)
      refine fin r zz mw2 mf2 ?_ ?_ (fun q hq => (c3 q hq).tr (b3 q hq))
      · unfold f_X5_until
        clear b2
        generalize (1000 : Nat) = N at b1 ⊢
        rw [(isLy_ok ha).1, (isSt_ok (by omega) hb).1]
        simp only [Option.bind_some, if_neg o10]
        rw [p_copy2 guess m]
        simp only [Option.bind_some]
        rw [show (0 : Int32) = nI 0 from rfl]
        exact b1
      · unfold f_X6_until
        clear b1
        generalize (1000 : Nat) = N at b2 ⊢
        rw [(isLy_ok ha).2, (isSt_ok (by omega) hb).2]
        simp only [Option.bind_some, if_neg o10]
        rw [show f_X6_copy mw mf 0 1 = f_X6_copy mw mf (nI 0) (nI 1) from rfl, c1]
        simp only [Option.bind_some]
        rw [show (0 : Int32) = nI 0 from rfl]
        exact b2
theorem do_pulled {l : Launch} {D : va_G} {B : Nat} {adK adV : Nat → Nat} {cC cF cI cZ cM cS : ClassId} {xa : Nat} {ad : Nat → Nat} {ya : Nat} {am : Nat → Nat} {σ : XS} {τ : RS} (hR : RR σ τ) (i k : Int32) : B_pulled l D B adK adV cC cF cI cZ cM cS xa ad ya am i k σ τ := by
  obtain ⟨tx, told, draft, now, guess, past, stored, ist, np, un, sh⟩ := σ
  obtain ⟨mst, mwy, mmk, mwt, mvl, mof, mw, mf, mun, mik, mtx, mln, mfi, mbe, mrs, mrw, mcl, mdo, mnu, mwd, msz, mso, mpl⟩ := τ
  obtain ⟨h1, h2, h3, S, W, h4, u, p, m, hu, hp, eu, emu, ep, en, hok, hmr, hpa, hkp⟩ := hR
  simp only at h1 h2 h3 h4 eu emu ep en hmr hpa hkp
  subst eu emu ep en
  obtain ⟨tst, twy, tmk, twt, tvl, tpt⟩ := told
  have h4' := h4
  obtain ⟨f1, f2, f3, f4, -, -, -, f8, f9⟩ := h4
  simp only at f1 f3 f8 f9
  subst f1 f2 f3 f4
  have hS := f8.1
  have fin : ∀ (r : Int32) (zz : (Nat → UInt32) × (Nat → UInt32) × (Nat → UInt32) × (Nat → UInt32) × (Nat → Int32) × Int32 × Int32 × Int32 × Int32 × Int32 × Int32 × Int32 × Int32 × Int32 × Int32 × Int32) (mw' : Nat → Int32) (mf' : Nat → UInt32), f_X5_pulled (nI S) (nI W) tpt m.2.2.2 (nI m.1.1) (nI m.1.2.1) (bwI m.1.2.2.1) (bfI m.1.2.2.1) (bdI m.1.2.2.1) m.1.2.2.2.1 m.1.2.2.2.2 (nI m.2.1.1) (nI m.2.1.2.1) (bwI m.2.1.2.2.1) (bfI m.2.1.2.2.1) (bdI m.2.1.2.2.1) m.2.1.2.2.2.1 m.2.1.2.2.2.2 m.2.2.1 guess.2.2.2 guess.1.1 guess.1.2.1 guess.1.2.2.1 guess.1.2.2.2.1 guess.1.2.2.2.2.1 guess.1.2.2.2.2.2.1 guess.1.2.2.2.2.2.2 guess.2.1.1 guess.2.1.2.1 guess.2.1.2.2.1 guess.2.1.2.2.2.1 guess.2.1.2.2.2.2.1 guess.2.1.2.2.2.2.2.1 guess.2.1.2.2.2.2.2.2 guess.2.2.1 i k = some (r, zz) → f_X6_pulled (nI S) (nI W) mof mw mf i k = some (r, mw', mf') → (∀ q, q ≠ 1 → SR mw mw' mf mf' q q) → B_pulled l D B adK adV cC cF cI cZ cM cS xa ad ya am i k (tx, (nI S, nI W, tmk, twt, tvl, tpt), draft, moT m, guess, past, stored, ist, nI p, nI u, sh) (nI S, nI W, mmk, mwt, mvl, mof, mw, mf, nI u, mik, mtx, mln, mfi, mbe, mrs, mrw, mcl, mdo, mnu, mwd, msz, mso, mpl) := by
    intro r zz mw' mf' e1 e2 e3
    exact ⟨.int r, _, _, k_pulled l D B adK adV cC cF cI cZ cM cS xa ad (tx, (nI S, nI W, tmk, twt, tvl, tpt), draft, moT m, guess, past, stored, ist, nI p, nI u, sh) i k (r, zz) e1, k6_pulled l D B adK adV cC cF cI cZ cM cS ya am (nI S, nI W, mmk, mwt, mvl, mof, mw, mf, nI u, mik, mtx, mln, mfi, mbe, mrs, mrw, mcl, mdo, mnu, mwd, msz, mso, mpl) i k (r, mw', mf') e2, h1, h2, h3, S, W, h4', u, p, m, hu, hp, rfl, rfl, rfl, rfl, hok, MR_row hmr (e3 0 (by omega)), RPa_row hpa (fun k hk => e3 _ (by omega)), RKp_row hkp (fun k hk => e3 _ (by omega))⟩
  rcases ix_cases i 2 (by omega) with hi | hi | ⟨a, ha, rfl⟩
  · exact fin (-2) _ mw mf (by unfold f_X5_pulled; rw [(isLy_lo hi).1]; rfl) (by unfold f_X6_pulled; rw [(isLy_lo hi).2]; rfl) (fun q _ => SR.rf)
  · exact fin (-2) _ mw mf (by unfold f_X5_pulled; rw [(isLy_hi hi).1]; rfl) (by unfold f_X6_pulled; rw [(isLy_hi hi).2]; rfl) (fun q _ => SR.rf)
  · rcases ix_cases k 3 (by omega) with hi | hi | ⟨b, hb, rfl⟩
    · exact fin (-2) _ mw mf (by unfold f_X5_pulled; rw [(isLy_ok ha).1, isTr_lo hi]; rfl) (by unfold f_X6_pulled; rw [(isLy_ok ha).2, third_lo hi]; rfl) (fun q _ => SR.rf)
    · exact fin (-2) _ mw mf (by unfold f_X5_pulled; rw [(isLy_ok ha).1, isTr_hi hi]; rfl) (by unfold f_X6_pulled; rw [(isLy_ok ha).2, third_hi hi]; rfl) (fun q _ => SR.rf)
    · by_cases hS0 : S = 0
      · subst hS0
        exact fin (-4) _ mw mf (by unfold f_X5_pulled; rw [(isLy_ok ha).1, isTr_ok hb]; rfl) (by unfold f_X6_pulled; rw [(isLy_ok ha).2, third_ok hb]; rfl) (fun q _ => SR.rf)
      · have hSn : ¬ nI S = 0 := by show ¬ nI S = nI 0; rw [eq_nI (by omega) (by omega)]; exact hS0
        have htr : mw 13 = m.2.2.2 := hmr.2.2.2
        by_cases ht : ((m.2.2.2 >>> (nI b &&& 31)) &&& 1) = 1
        · exact fin (-4) _ mw mf (by
            unfold f_X5_pulled
            rw [(isLy_ok ha).1, isTr_ok hb]
            simp only [Option.bind_some, if_neg o10]
            rw [if_neg hSn, trig_eq, decide_eq_true ht]
            rfl) (by
            unfold f_X6_pulled
            rw [(isLy_ok ha).2, third_ok hb]
            simp only [Option.bind_some, if_neg o10]
            rw [if_neg hSn, htr, p6_has, decide_eq_true ht]
            rfl) (fun q _ => SR.rf)
        · obtain ⟨mw1, mf1, c1, c2, c3⟩ := p6_copy (mw := mw) (mf := mf) (r := 0) (r' := 1) (by omega) (by omega) (by omega)
          have hg := MR_trg (v := m.2.2.2 ||| ((1 : Int32) <<< (nI b &&& 31))) (MR_row (cpM_MR (d := guess) hmr) c2)
          have hgo : MOK S W ((cpM guess m).1, (cpM guess m).2.1, (cpM guess m).2.2.1, m.2.2.2 ||| ((1 : Int32) <<< (nI b &&& 31))) := cpM_ok hok
          obtain ⟨mw2, mf2, b1, b2, b3⟩ := p6_frame f8 f9 (show 1 < 12 by omega) hgo hg
          have hst := (lyA_LR b2 ha).1
          have hp1 := p_mgoOn f8 hgo
          have e2 : f_X6_pulled (nI S) (nI W) mof mw mf (nI a) (nI b) = some (nI (lyA (mstep (fun w k => tpt (w * 7 + k)) W ((cpM guess m).1, (cpM guess m).2.1, (cpM guess m).2.2.1, m.2.2.2 ||| ((1 : Int32) <<< (nI b &&& 31)))) a).1, mw2, mf2) := by
            unfold f_X6_pulled
            rw [(isLy_ok ha).2, third_ok hb]
            simp only [Option.bind_some, if_neg o10]
            rw [if_neg hSn, htr, p6_has, decide_eq_false ht]
            simp only [Option.bind_some]
            rw [if_pos (show bI false = 0 from rfl), show f_X6_copy mw mf 0 1 = f_X6_copy mw mf (nI 0) (nI 1) from rfl, c1]
            simp only [Option.bind_some]
            rw [show mw1 27 = m.2.2.2 from (c2.1 13 (by omega)).trans htr, show f_X6_frame (nI W) mof (upd mw1 27 (m.2.2.2 ||| ((1 : Int32) <<< (nI b &&& 31)))) mf1 1 = f_X6_frame (nI W) mof (upd mw1 (14 * 1 + 13) (m.2.2.2 ||| ((1 : Int32) <<< (nI b &&& 31)))) mf1 (nI 1) from rfl, b1]
            simp only [Option.bind_some]
            simp (disch := omega) only [l14, l5, mu_nI, ad_nI, ad0, cl_nI, gd_iok]
            rw [show mw2 (14 + 5 * a) = _ from hst]
          have fr : ∀ q, q ≠ 1 → SR mw mw2 mf mf2 q q := fun q hq => (c3 q hq).tr ((SR_upd (by omega)).tr (b3 q hq))
          obtain rfl | rfl : a = 0 ∨ a = 1 := by omega
          · refine fin _ ((mstep (fun w k => tpt (w * 7 + k)) W ((cpM guess m).1, (cpM guess m).2.1, (cpM guess m).2.2.1, m.2.2.2 ||| ((1 : Int32) <<< (nI b &&& 31)))).1.2.2.2.1, (mstep (fun w k => tpt (w * 7 + k)) W ((cpM guess m).1, (cpM guess m).2.1, (cpM guess m).2.2.1, m.2.2.2 ||| ((1 : Int32) <<< (nI b &&& 31)))).1.2.2.2.2, (mstep (fun w k => tpt (w * 7 + k)) W ((cpM guess m).1, (cpM guess m).2.1, (cpM guess m).2.2.1, m.2.2.2 ||| ((1 : Int32) <<< (nI b &&& 31)))).2.1.2.2.2.1, (mstep (fun w k => tpt (w * 7 + k)) W ((cpM guess m).1, (cpM guess m).2.1, (cpM guess m).2.2.1, m.2.2.2 ||| ((1 : Int32) <<< (nI b &&& 31)))).2.1.2.2.2.2, (mstep (fun w k => tpt (w * 7 + k)) W ((cpM guess m).1, (cpM guess m).2.1, (cpM guess m).2.2.1, m.2.2.2 ||| ((1 : Int32) <<< (nI b &&& 31)))).2.2.1, (mstep (fun w k => tpt (w * 7 + k)) W ((cpM guess m).1, (cpM guess m).2.1, (cpM guess m).2.2.1, m.2.2.2 ||| ((1 : Int32) <<< (nI b &&& 31)))).2.2.2, nI (mstep (fun w k => tpt (w * 7 + k)) W ((cpM guess m).1, (cpM guess m).2.1, (cpM guess m).2.2.1, m.2.2.2 ||| ((1 : Int32) <<< (nI b &&& 31)))).1.1, nI (mstep (fun w k => tpt (w * 7 + k)) W ((cpM guess m).1, (cpM guess m).2.1, (cpM guess m).2.2.1, m.2.2.2 ||| ((1 : Int32) <<< (nI b &&& 31)))).1.2.1, bwI (mstep (fun w k => tpt (w * 7 + k)) W ((cpM guess m).1, (cpM guess m).2.1, (cpM guess m).2.2.1, m.2.2.2 ||| ((1 : Int32) <<< (nI b &&& 31)))).1.2.2.1, bfI (mstep (fun w k => tpt (w * 7 + k)) W ((cpM guess m).1, (cpM guess m).2.1, (cpM guess m).2.2.1, m.2.2.2 ||| ((1 : Int32) <<< (nI b &&& 31)))).1.2.2.1, bdI (mstep (fun w k => tpt (w * 7 + k)) W ((cpM guess m).1, (cpM guess m).2.1, (cpM guess m).2.2.1, m.2.2.2 ||| ((1 : Int32) <<< (nI b &&& 31)))).1.2.2.1, nI (mstep (fun w k => tpt (w * 7 + k)) W ((cpM guess m).1, (cpM guess m).2.1, (cpM guess m).2.2.1, m.2.2.2 ||| ((1 : Int32) <<< (nI b &&& 31)))).2.1.1, nI (mstep (fun w k => tpt (w * 7 + k)) W ((cpM guess m).1, (cpM guess m).2.1, (cpM guess m).2.2.1, m.2.2.2 ||| ((1 : Int32) <<< (nI b &&& 31)))).2.1.2.1, bwI (mstep (fun w k => tpt (w * 7 + k)) W ((cpM guess m).1, (cpM guess m).2.1, (cpM guess m).2.2.1, m.2.2.2 ||| ((1 : Int32) <<< (nI b &&& 31)))).2.1.2.2.1, bfI (mstep (fun w k => tpt (w * 7 + k)) W ((cpM guess m).1, (cpM guess m).2.1, (cpM guess m).2.2.1, m.2.2.2 ||| ((1 : Int32) <<< (nI b &&& 31)))).2.1.2.2.1, bdI (mstep (fun w k => tpt (w * 7 + k)) W ((cpM guess m).1, (cpM guess m).2.1, (cpM guess m).2.2.1, m.2.2.2 ||| ((1 : Int32) <<< (nI b &&& 31)))).2.1.2.2.1) mw2 mf2 ?_ e2 fr
            unfold f_X5_pulled
            rw [(isLy_ok ha).1, isTr_ok hb]
            simp only [Option.bind_some, if_neg o10]
            rw [if_neg hSn, trig_eq, decide_eq_false ht]
            simp only [Option.bind_some]
            rw [if_pos (show bI false = 0 from rfl)]
            show (Option.bind (f_X2_goOn (m.2.2.2 ||| ((1 : Int32) <<< (nI b &&& 31))) (nI (cpM guess m).1.1) (nI (cpM guess m).1.2.1) (bwI (cpM guess m).1.2.2.1) (bfI (cpM guess m).1.2.2.1) (bdI (cpM guess m).1.2.2.1) (cpM guess m).1.2.2.2.1 (cpM guess m).1.2.2.2.2 (nI (cpM guess m).2.1.1) (nI (cpM guess m).2.1.2.1) (bwI (cpM guess m).2.1.2.2.1) (bfI (cpM guess m).2.1.2.2.1) (bdI (cpM guess m).2.1.2.2.1) (cpM guess m).2.1.2.2.2.1 (cpM guess m).2.1.2.2.2.2 (cpM guess m).2.2.1 (nI W) tpt) _) = _
            rw [show f_X2_goOn (m.2.2.2 ||| ((1 : Int32) <<< (nI b &&& 31))) (nI (cpM guess m).1.1) (nI (cpM guess m).1.2.1) (bwI (cpM guess m).1.2.2.1) (bfI (cpM guess m).1.2.2.1) (bdI (cpM guess m).1.2.2.1) (cpM guess m).1.2.2.2.1 (cpM guess m).1.2.2.2.2 (nI (cpM guess m).2.1.1) (nI (cpM guess m).2.1.2.1) (bwI (cpM guess m).2.1.2.2.1) (bfI (cpM guess m).2.1.2.2.1) (bdI (cpM guess m).2.1.2.2.1) (cpM guess m).2.1.2.2.2.1 (cpM guess m).2.1.2.2.2.2 (cpM guess m).2.2.1 (nI W) tpt = _ from hp1]
            rfl
          · refine fin _ ((mstep (fun w k => tpt (w * 7 + k)) W ((cpM guess m).1, (cpM guess m).2.1, (cpM guess m).2.2.1, m.2.2.2 ||| ((1 : Int32) <<< (nI b &&& 31)))).1.2.2.2.1, (mstep (fun w k => tpt (w * 7 + k)) W ((cpM guess m).1, (cpM guess m).2.1, (cpM guess m).2.2.1, m.2.2.2 ||| ((1 : Int32) <<< (nI b &&& 31)))).1.2.2.2.2, (mstep (fun w k => tpt (w * 7 + k)) W ((cpM guess m).1, (cpM guess m).2.1, (cpM guess m).2.2.1, m.2.2.2 ||| ((1 : Int32) <<< (nI b &&& 31)))).2.1.2.2.2.1, (mstep (fun w k => tpt (w * 7 + k)) W ((cpM guess m).1, (cpM guess m).2.1, (cpM guess m).2.2.1, m.2.2.2 ||| ((1 : Int32) <<< (nI b &&& 31)))).2.1.2.2.2.2, (mstep (fun w k => tpt (w * 7 + k)) W ((cpM guess m).1, (cpM guess m).2.1, (cpM guess m).2.2.1, m.2.2.2 ||| ((1 : Int32) <<< (nI b &&& 31)))).2.2.1, (mstep (fun w k => tpt (w * 7 + k)) W ((cpM guess m).1, (cpM guess m).2.1, (cpM guess m).2.2.1, m.2.2.2 ||| ((1 : Int32) <<< (nI b &&& 31)))).2.2.2, nI (mstep (fun w k => tpt (w * 7 + k)) W ((cpM guess m).1, (cpM guess m).2.1, (cpM guess m).2.2.1, m.2.2.2 ||| ((1 : Int32) <<< (nI b &&& 31)))).1.1, nI (mstep (fun w k => tpt (w * 7 + k)) W ((cpM guess m).1, (cpM guess m).2.1, (cpM guess m).2.2.1, m.2.2.2 ||| ((1 : Int32) <<< (nI b &&& 31)))).1.2.1, bwI (mstep (fun w k => tpt (w * 7 + k)) W ((cpM guess m).1, (cpM guess m).2.1, (cpM guess m).2.2.1, m.2.2.2 ||| ((1 : Int32) <<< (nI b &&& 31)))).1.2.2.1, bfI (mstep (fun w k => tpt (w * 7 + k)) W ((cpM guess m).1, (cpM guess m).2.1, (cpM guess m).2.2.1, m.2.2.2 ||| ((1 : Int32) <<< (nI b &&& 31)))).1.2.2.1, bdI (mstep (fun w k => tpt (w * 7 + k)) W ((cpM guess m).1, (cpM guess m).2.1, (cpM guess m).2.2.1, m.2.2.2 ||| ((1 : Int32) <<< (nI b &&& 31)))).1.2.2.1, nI (mstep (fun w k => tpt (w * 7 + k)) W ((cpM guess m).1, (cpM guess m).2.1, (cpM guess m).2.2.1, m.2.2.2 ||| ((1 : Int32) <<< (nI b &&& 31)))).2.1.1, nI (mstep (fun w k => tpt (w * 7 + k)) W ((cpM guess m).1, (cpM guess m).2.1, (cpM guess m).2.2.1, m.2.2.2 ||| ((1 : Int32) <<< (nI b &&& 31)))).2.1.2.1, bwI (mstep (fun w k => tpt (w * 7 + k)) W ((cpM guess m).1, (cpM guess m).2.1, (cpM guess m).2.2.1, m.2.2.2 ||| ((1 : Int32) <<< (nI b &&& 31)))).2.1.2.2.1, bfI (mstep (fun w k => tpt (w * 7 + k)) W ((cpM guess m).1, (cpM guess m).2.1, (cpM guess m).2.2.1, m.2.2.2 ||| ((1 : Int32) <<< (nI b &&& 31)))).2.1.2.2.1, bdI (mstep (fun w k => tpt (w * 7 + k)) W ((cpM guess m).1, (cpM guess m).2.1, (cpM guess m).2.2.1, m.2.2.2 ||| ((1 : Int32) <<< (nI b &&& 31)))).2.1.2.2.1) mw2 mf2 ?_ e2 fr
            unfold f_X5_pulled
            rw [(isLy_ok ha).1, isTr_ok hb]
            simp only [Option.bind_some, if_neg o10]
            rw [if_neg hSn, trig_eq, decide_eq_false ht]
            simp only [Option.bind_some]
            rw [if_pos (show bI false = 0 from rfl)]
            show (Option.bind (f_X2_goOn (m.2.2.2 ||| ((1 : Int32) <<< (nI b &&& 31))) (nI (cpM guess m).1.1) (nI (cpM guess m).1.2.1) (bwI (cpM guess m).1.2.2.1) (bfI (cpM guess m).1.2.2.1) (bdI (cpM guess m).1.2.2.1) (cpM guess m).1.2.2.2.1 (cpM guess m).1.2.2.2.2 (nI (cpM guess m).2.1.1) (nI (cpM guess m).2.1.2.1) (bwI (cpM guess m).2.1.2.2.1) (bfI (cpM guess m).2.1.2.2.1) (bdI (cpM guess m).2.1.2.2.1) (cpM guess m).2.1.2.2.2.1 (cpM guess m).2.1.2.2.2.2 (cpM guess m).2.2.1 (nI W) tpt) _) = _
            rw [show f_X2_goOn (m.2.2.2 ||| ((1 : Int32) <<< (nI b &&& 31))) (nI (cpM guess m).1.1) (nI (cpM guess m).1.2.1) (bwI (cpM guess m).1.2.2.1) (bfI (cpM guess m).1.2.2.1) (bdI (cpM guess m).1.2.2.1) (cpM guess m).1.2.2.2.1 (cpM guess m).1.2.2.2.2 (nI (cpM guess m).2.1.1) (nI (cpM guess m).2.1.2.1) (bwI (cpM guess m).2.1.2.2.1) (bfI (cpM guess m).2.1.2.2.1) (bdI (cpM guess m).2.1.2.2.1) (cpM guess m).2.1.2.2.2.1 (cpM guess m).2.1.2.2.2.2 (cpM guess m).2.2.1 (nI W) tpt = _ from hp1]
            rfl
