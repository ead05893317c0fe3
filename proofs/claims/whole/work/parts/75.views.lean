/-! ===== layer, share ===== -/
theorem s_part {x : AL} {mw : Nat → Int32} {mf : Nat → UInt32} {a c : Nat} (h : LR x mw mf 0 a) (hx : ∀ w n d, x.2.2.1 = some (w, n, d) → w < 100) (ha : a < 2) (hc : c < 6) : ∃ r, f_X1_part (nI x.1) (nI x.2.1) (bwI x.2.2.1) (bfI x.2.2.1) (bdI x.2.2.1) (nI c) = some r ∧
    (if nI c = 4 then (gd (iok (((5 : Int32) * nI a) + 4) 168) (if (mw ((((5 : Int32) * nI a) + 4).toNatClampNeg)) = (-1) then (some 1) else (some 0))) else (if nI c = 5 then (gd (iok (((5 : Int32) * nI a) + 4) 168) (some (mw ((((5 : Int32) * nI a) + 4).toNatClampNeg)))) else (gd (iok (((5 : Int32) * nI a) + nI c) 168) (some (mw ((((5 : Int32) * nI a) + nI c).toNatClampNeg)))))) = some r := by
  obtain ⟨x1, x2, x3, x4, x5, -, -⟩ := h
  simp only [Nat.mul_zero, Nat.zero_add] at x1 x2 x3 x4 x5
  simp (disch := omega) only [l4, l5, mu_nI, ad_nI, cl_nI, gd_iok]
  match c, hc with
  | 0, _ => exact ⟨_, rfl, by rw [if_neg (by decide), if_neg (by decide)]; exact congrArg some x1⟩
  | 1, _ => exact ⟨_, rfl, by rw [if_neg (by decide), if_neg (by decide)]; exact congrArg some x2⟩
  | 2, _ => exact ⟨_, rfl, by rw [if_neg (by decide), if_neg (by decide)]; exact congrArg some x3⟩
  | 3, _ => exact ⟨_, rfl, by rw [if_neg (by decide), if_neg (by decide)]; exact congrArg some x4⟩
  | 4, _ =>
    rw [if_pos rfl, x5]
    refine ⟨if x.2.2.1 = none then 1 else 0, ?_, ?_⟩
    · show (Option.bind (f_X1_isSteady (bwI x.2.2.1)) _) = _
      rw [p_isSteady _ hx]
      by_cases hb : x.2.2.1 = none
      · simp only [hb, if_true]; rfl
      · simp only [hb, if_false]; rfl
    · cases hb : x.2.2.1 with
      | none => rfl
      | some q =>
        obtain ⟨w, n, d⟩ := q
        rw [if_neg (show ¬ bwI (some (w, n, d)) = -1 from m1_ne w (by have := hx w n d hb; omega))]
        rfl
  | 5, _ => exact ⟨_, rfl, by rw [if_neg (by decide), if_pos rfl]; exact congrArg some x5⟩
theorem do_layer {l : Launch} {D : va_G} {B : Nat} {adK adV : Nat → Nat} {cC cF cI cZ cM cS : ClassId} {xa : Nat} {ad : Nat → Nat} {ya : Nat} {am : Nat → Nat} {σ : XS} {τ : RS} (hR : RR σ τ) (i k : Int32) : B_layer l D B adK adV cC cF cI cZ cM cS xa ad ya am i k σ τ := by
  have hR0 := hR
  obtain ⟨tx, told, draft, now, guess, past, stored, ist, np, un, sh⟩ := σ
  obtain ⟨mst, mwy, mmk, mwt, mvl, mof, mw, mf, mun, mik, mtx, mln, mfi, mbe, mrs, mrw, mcl, mdo, mnu, mwd, msz, mso, mpl⟩ := τ
  obtain ⟨h1, h2, h3, S, W, h4, u, p, m, hu, hp, eu, emu, ep, en, hok, hmr, hpa, hkp⟩ := hR
  simp only at h1 h2 h3 h4 eu emu ep en hmr hpa hkp
  subst eu emu ep en
  obtain ⟨tst, twy, tmk, twt, tvl, tpt⟩ := told
  have h4' := h4
  obtain ⟨f1, f2, f3, f4, -, -, -, f8, f9⟩ := h4
  simp only at f1 f3 f8 f9
  subst f1 f2 f3 f4
  have hS := f8.1
  have fin : ∀ r : Int32, f_X5_layer (nI S) (nI m.1.1) (nI m.1.2.1) (bwI m.1.2.2.1) (bfI m.1.2.2.1) (bdI m.1.2.2.1) (nI m.2.1.1) (nI m.2.1.2.1) (bwI m.2.1.2.2.1) (bfI m.2.1.2.2.1) (bdI m.2.1.2.2.1) i k = some r → f_X6_layer (nI S) mw i k = some r → B_layer l D B adK adV cC cF cI cZ cM cS xa ad ya am i k (tx, (nI S, nI W, tmk, twt, tvl, tpt), draft, moT m, guess, past, stored, ist, nI p, nI u, sh) (nI S, nI W, mmk, mwt, mvl, mof, mw, mf, nI u, mik, mtx, mln, mfi, mbe, mrs, mrw, mcl, mdo, mnu, mwd, msz, mso, mpl) := by
    intro r e1 e2
    exact ⟨.int r, _, _, k_layer l D B adK adV cC cF cI cZ cM cS xa ad (tx, (nI S, nI W, tmk, twt, tvl, tpt), draft, moT m, guess, past, stored, ist, nI p, nI u, sh) i k r e1, k6_layer l D B adK adV cC cF cI cZ cM cS ya am (nI S, nI W, mmk, mwt, mvl, mof, mw, mf, nI u, mik, mtx, mln, mfi, mbe, mrs, mrw, mcl, mdo, mnu, mwd, msz, mso, mpl) i k r e2, hR0⟩
  rcases ix_cases i 2 (by omega) with hi | hi | ⟨a, ha, rfl⟩
  · exact fin (-2) (by unfold f_X5_layer; rw [(isLy_lo hi).1]; rfl) (by unfold f_X6_layer; rw [(isLy_lo hi).2]; rfl)
  · exact fin (-2) (by unfold f_X5_layer; rw [(isLy_hi hi).1]; rfl) (by unfold f_X6_layer; rw [(isLy_hi hi).2]; rfl)
  · have e6 : f_X6_in k.toInt64 0 5 = f_X6_in k.toInt64 0 (nI 6 - 1).toInt64 := rfl
    rcases ix_cases k 6 (by omega) with hk | hk | ⟨c, hc, rfl⟩
    · exact fin (-3) (by unfold f_X5_layer; rw [(isLy_ok ha).1]; simp only [Option.bind_some, if_neg o10]; rw [if_pos hk]) (by unfold f_X6_layer; rw [(isLy_ok ha).2, e6, in_lo hk]; rfl)
    · exact fin (-3) (by unfold f_X5_layer; rw [(isLy_ok ha).1]; simp only [Option.bind_some, if_neg o10]; rw [if_neg (ge_neg (by omega) hk), if_neg (show ¬ k ≤ 5 from ge_le (k := 5) (by omega) hk (by omega))]) (by unfold f_X6_layer; rw [(isLy_ok ha).2, e6, in_hi (by omega) hk]; rfl)
    · have k1 : ¬ nI c < 0 := nneg (by omega)
      have k2 : nI c ≤ 5 := by show nI c ≤ nI 5; rw [le_nI (by omega) (by omega)]; omega
      by_cases hS0 : S = 0
      · subst hS0
        exact fin (-4) (by unfold f_X5_layer; rw [(isLy_ok ha).1]; simp only [Option.bind_some, if_neg o10]; rw [if_neg k1, if_pos k2, if_pos (show nI 0 = 0 from rfl)]) (by unfold f_X6_layer; rw [(isLy_ok ha).2, e6, in_ok (by omega) hc]; rfl)
      · have hSn : ¬ nI S = 0 := by show ¬ nI S = nI 0; rw [eq_nI (by omega) (by omega)]; exact hS0
        obtain ⟨r, g1, g2⟩ := s_part (lyA_LR hmr ha) ((lyA_ok hok ha).w100 f8.2.1) ha hc
        refine fin r ?_ ?_
        · unfold f_X5_layer
          rw [(isLy_ok ha).1]
          simp only [Option.bind_some, if_neg o10]
          rw [if_neg k1, if_pos k2, if_neg hSn]
          obtain rfl | rfl : a = 0 ∨ a = 1 := by omega
          · rw [if_pos (show nI 0 = 0 from rfl)]
            show (Option.bind (f_X1_part (nI m.1.1) (nI m.1.2.1) (bwI m.1.2.2.1) (bfI m.1.2.2.1) (bdI m.1.2.2.1) (nI c)) _) = _
            rw [show f_X1_part (nI m.1.1) (nI m.1.2.1) (bwI m.1.2.2.1) (bfI m.1.2.2.1) (bdI m.1.2.2.1) (nI c) = some r from g1]
            rfl
          · rw [if_neg (show ¬ nI 1 = 0 by decide), if_pos (show nI 1 = 1 from rfl)]
            show (Option.bind (f_X1_part (nI m.2.1.1) (nI m.2.1.2.1) (bwI m.2.1.2.2.1) (bfI m.2.1.2.2.1) (bdI m.2.1.2.2.1) (nI c)) _) = _
            rw [show f_X1_part (nI m.2.1.1) (nI m.2.1.2.1) (bwI m.2.1.2.2.1) (bfI m.2.1.2.2.1) (bdI m.2.1.2.2.1) (nI c) = some r from g1]
            rfl
        · unfold f_X6_layer
          rw [(isLy_ok ha).2, e6, in_ok (by omega) hc]
          simp only [Option.bind_some, if_neg o10]
          rw [if_neg hSn]
          exact g2
theorem Sh_65536 {a : UInt32} (h : Sh a) : fok (FP.fmul a 1199570944) := (fok_iff _).mpr (fmul_nn h.lt (by decide)).1
theorem do_share {l : Launch} {D : va_G} {B : Nat} {adK adV : Nat → Nat} {cC cF cI cZ cM cS : ClassId} {xa : Nat} {ad : Nat → Nat} {ya : Nat} {am : Nat → Nat} {σ : XS} {τ : RS} (hR : RR σ τ) (i k : Int32) : B_share l D B adK adV cC cF cI cZ cM cS xa ad ya am i k σ τ := by
  have hR0 := hR
  obtain ⟨tx, told, draft, now, guess, past, stored, ist, np, un, sh⟩ := σ
  obtain ⟨mst, mwy, mmk, mwt, mvl, mof, mw, mf, mun, mik, mtx, mln, mfi, mbe, mrs, mrw, mcl, mdo, mnu, mwd, msz, mso, mpl⟩ := τ
  obtain ⟨h1, h2, h3, S, W, h4, u, p, m, hu, hp, eu, emu, ep, en, hok, hmr, hpa, hkp⟩ := hR
  simp only at h1 h2 h3 h4 eu emu ep en hmr hpa hkp
  subst eu emu ep en
  obtain ⟨tst, twy, tmk, twt, tvl, tpt⟩ := told
  have h4' := h4
  obtain ⟨f1, f2, f3, f4, -, -, -, f8, f9⟩ := h4
  simp only at f1 f3 f8 f9
  subst f1 f2 f3 f4
  have hS := f8.1
  have fin : ∀ r : Int32, f_X5_share (nI S) m.1.2.2.2.1 m.2.1.2.2.2.1 i k = some r → f_X6_share (nI S) mf i k = some r → B_share l D B adK adV cC cF cI cZ cM cS xa ad ya am i k (tx, (nI S, nI W, tmk, twt, tvl, tpt), draft, moT m, guess, past, stored, ist, nI p, nI u, sh) (nI S, nI W, mmk, mwt, mvl, mof, mw, mf, nI u, mik, mtx, mln, mfi, mbe, mrs, mrw, mcl, mdo, mnu, mwd, msz, mso, mpl) := by
    intro r e1 e2
    exact ⟨.int r, _, _, k_share l D B adK adV cC cF cI cZ cM cS xa ad (tx, (nI S, nI W, tmk, twt, tvl, tpt), draft, moT m, guess, past, stored, ist, nI p, nI u, sh) i k r e1, k6_share l D B adK adV cC cF cI cZ cM cS ya am (nI S, nI W, mmk, mwt, mvl, mof, mw, mf, nI u, mik, mtx, mln, mfi, mbe, mrs, mrw, mcl, mdo, mnu, mwd, msz, mso, mpl) i k r e2, hR0⟩
  rcases ix_cases i 2 (by omega) with hi | hi | ⟨a, ha, rfl⟩
  · exact fin (-2) (by unfold f_X5_share; rw [(isLy_lo hi).1]; rfl) (by unfold f_X6_share; rw [(isLy_lo hi).2]; rfl)
  · exact fin (-2) (by unfold f_X5_share; rw [(isLy_hi hi).1]; rfl) (by unfold f_X6_share; rw [(isLy_hi hi).2]; rfl)
  · rcases ix_cases k S (by omega) with hi | hi | ⟨b, hb, rfl⟩
    · exact fin (-2) (by unfold f_X5_share; rw [(isLy_ok ha).1, (isSt_lo hi).1]; rfl) (by unfold f_X6_share; rw [(isLy_ok ha).2, (isSt_lo hi).2]; rfl)
    · exact fin (-2) (by unfold f_X5_share; rw [(isLy_ok ha).1, (isSt_hi (by omega) hi).1]; rfl) (by unfold f_X6_share; rw [(isLy_ok ha).2, (isSt_hi (by omega) hi).2]; rfl)
    · have hsh := (lyA_ok hok ha).2.2.2.1 b (by omega)
      have hmf := (lyA_LR hmr ha).2.2.2.2.2.1 b (by omega)
      refine fin (FP.f2i (FP.fmul ((lyA m a).2.2.2.1 b) 1199570944)) ?_ ?_
      · unfold f_X5_share
        rw [(isLy_ok ha).1, (isSt_ok (by omega) hb).1]
        simp only [Option.bind_some, if_neg o10]
        simp (disch := omega) only [cl_nI, gd_iok]
        obtain rfl | rfl : a = 0 ∨ a = 1 := by omega
        · rw [if_pos (show nI 0 = 0 from rfl)]
          show gd (fok (FP.fmul ((lyA m 0).2.2.2.1 b) 1199570944)) _ = _
          rw [gd_t (Sh_65536 hsh)]
          rfl
        · rw [if_neg (show ¬ nI 1 = 0 by decide), if_pos (show nI 1 = 1 from rfl)]
          show gd (fok (FP.fmul ((lyA m 1).2.2.2.1 b) 1199570944)) _ = _
          rw [gd_t (Sh_65536 hsh)]
          rfl
      · unfold f_X6_share
        rw [(isLy_ok ha).2, (isSt_ok (by omega) hb).2]
        simp only [Option.bind_some, if_neg o10]
        simp (disch := omega) only [l6, mu_nI, ad_nI, cl_nI, gd_iok]
        rw [show mf (6 * a + b) = (lyA m a).2.2.2.1 b by rw [← hmf]; congr 1; omega, gd_t (Sh_65536 hsh)]
