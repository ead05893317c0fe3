/-! ===== look, lift, lay ===== -/
theorem ag_no {msz : Nat → Int32} {a : Nat} {k : Int32} (ha : a < 3) (hz : msz a = -1) : f_X6_against msz (nI a) k = some (-11) := by
  unfold f_X6_against
  rw [gd_iok ha (by omega), if_neg (show ¬ 0 ≤ msz (nI a).toNatClampNeg by rw [cl_nI (by omega), hz]; decide)]
theorem ag_pos {msz : Nat → Int32} {a n : Nat} (ha : a < 3) (hn : n ≤ 8) (hz : msz a = nI n) : 0 ≤ msz (nI a).toNatClampNeg := by
  rw [cl_nI (by omega), hz]
  show nI 0 ≤ nI n
  rw [le_nI (by omega) (by omega)]
  omega
theorem ag_lo {msz : Nat → Int32} {a n : Nat} {k : Int32} (ha : a < 3) (hn : n ≤ 8) (hz : msz a = nI n) (hk : k < 0) : f_X6_against msz (nI a) k = some (-13) := by
  unfold f_X6_against
  rw [gd_iok ha (by omega), if_pos (ag_pos ha hn hz), gd_iok ha (by omega), cl_nI (by omega), hz, in_lo hk]
  rfl
theorem ag_hi {msz : Nat → Int32} {a n : Nat} {k : Int32} (ha : a < 3) (hn : n ≤ 8) (hz : msz a = nI n) (hk : nI n ≤ k) : f_X6_against msz (nI a) k = some (-13) := by
  unfold f_X6_against
  rw [gd_iok ha (by omega), if_pos (ag_pos ha hn hz), gd_iok ha (by omega), cl_nI (by omega), hz, in_hi (by omega) hk]
  rfl
theorem ag_ok {msz : Nat → Int32} {a n c : Nat} (ha : a < 3) (hn : n ≤ 8) (hz : msz a = nI n) (hc : c < n) : f_X6_against msz (nI a) (nI c) = some 0 := by
  unfold f_X6_against
  rw [gd_iok ha (by omega), if_pos (ag_pos ha hn hz), gd_iok ha (by omega), cl_nI (by omega), hz, in_ok (by omega) hc]
  rfl
theorem hp_lo {n : Nat} {k : Int32} (hk : k < 0) : f_X3_hasPlace (nI n) k = some 0 := by unfold f_X3_hasPlace; rw [if_pos hk]
theorem hp_hi {n : Nat} {k : Int32} (hn : n ≤ 8) (hk : nI n ≤ k) : f_X3_hasPlace (nI n) k = some 0 := by unfold f_X3_hasPlace; rw [if_neg (ge_neg (by omega) hk), if_pos hk]
theorem hp_ok {n c : Nat} (hn : n ≤ 8) (hc : c < n) : f_X3_hasPlace (nI n) (nI c) = some 1 := by unfold f_X3_hasPlace; rw [if_neg (nneg (by omega)), if_neg (show ¬ nI n ≤ nI c by rw [le_nI (by omega) (by omega)]; omega)]
theorem s_look {x : ShT} {msz mso mpl : Nat → Int32} {a : Nat} (ha : a < 3) (hs : RSf x (msz a) (mso a) (fun j => mpl (8 * a + j))) (k : Int32) :
    (∃ r : Int32, r < 0 ∧ f_X3_markAt x.1 x.2.2.1 x.2.2.2 k = some r ∧ f_X6_lookOf msz mpl (nI a) k = some r) ∨
    (∃ n c v, x.1 = 0 ∧ n ≤ 8 ∧ c < n ∧ v < 2000 ∧ k = nI c ∧ f_X3_markAt x.1 x.2.2.1 x.2.2.2 k = some (nI v) ∧ f_X6_lookOf msz mpl (nI a) k = some (nI v)) := by
  unfold f_X3_markAt f_X6_lookOf
  rcases hs with ⟨m1, m2, m3⟩ | ⟨m1, n, f, hn, hf, m2, m3, m4, m5, m6⟩
  · left
    rw [m1, ag_no ha m3]
    exact ⟨-11, by decide, rfl, rfl⟩
  · rw [if_pos m1, m4]
    rcases ix_cases k n (by omega) with hk | hk | ⟨c, hc, rfl⟩
    · left
      rw [hp_lo hk, ag_lo ha hn m5 hk]
      exact ⟨-13, by decide, rfl, rfl⟩
    · left
      rw [hp_hi hn hk, ag_hi ha hn m5 hk]
      exact ⟨-13, by decide, rfl, rfl⟩
    · rw [hp_ok hn hc, ag_ok ha hn m5 hc]
      simp only [Option.bind_some, if_neg o10, if_true]
      simp (disch := omega) only [l8, mu_nI, ad_nI, cl_nI, gd_iok]
      rcases m6 c hc with ⟨g1, g2⟩ | ⟨v, hv, g1, g2⟩
      · left
        simp only at g2
        rw [g1, g2]
        exact ⟨-15, by decide, rfl, rfl⟩
      · right
        simp only at g2
        rw [g1, g2, if_neg (m1_ne v (by omega))]
        exact ⟨n, c, v, m1, hn, hc, hv, rfl, rfl, rfl⟩
theorem do_look {l : Launch} {D : va_G} {B : Nat} {adK adV : Nat → Nat} {cC cF cI cZ cM cS : ClassId} {xa : Nat} {ad : Nat → Nat} {ya : Nat} {am : Nat → Nat} {σ : XS} {τ : RS} (hR : RR σ τ) (i k : Int32) : B_look l D B adK adV cC cF cI cZ cM cS xa ad ya am i k σ τ := by
  have hR0 := hR
  obtain ⟨tx, told, draft, now, guess, past, stored, ist, np, un, sh⟩ := σ
  obtain ⟨mst, mwy, mmk, mwt, mvl, mof, mw, mf, mun, mik, mtx, mln, mfi, mbe, mrs, mrw, mcl, mdo, mnu, mwd, msz, mso, mpl⟩ := τ
  obtain ⟨h1, h2, h3, h4⟩ := hR
  simp only at h1 h2 h3 h4
  have fin : ∀ (r : Int32) (j : Nat) (hj : j < 3), f_X5_look (fun j => ([(ad 109), (ad 111), (ad 113)] : List Nat)[j]?) (ad (109 + 2 * j)) (sh j).1 (sh j).2.2.1 (sh j).2.2.2 i k = some r → f_X6_look msz mpl i k = some r → B_look l D B adK adV cC cF cI cZ cM cS xa ad ya am i k (tx, told, draft, now, guess, past, stored, ist, np, un, sh) (mst, mwy, mmk, mwt, mvl, mof, mw, mf, mun, mik, mtx, mln, mfi, mbe, mrs, mrw, mcl, mdo, mnu, mwd, msz, mso, mpl) := by
    intro r j hj e1 e2
    exact ⟨.int r, _, _, kk_look l D B adK adV cC cF cI cZ cM cS xa ad (tx, told, draft, now, guess, past, stored, ist, np, un, sh) i k r j hj e1, k6_look l D B adK adV cC cF cI cZ cM cS ya am (mst, mwy, mmk, mwt, mvl, mof, mw, mf, mun, mik, mtx, mln, mfi, mbe, mrs, mrw, mcl, mdo, mnu, mwd, msz, mso, mpl) i k r e2, hR0⟩
  rcases ix_cases i 3 (by omega) with hi | hi | ⟨a, ha, rfl⟩
  · exact fin (-2) 0 (by omega) (by unfold f_X5_look; rw [isSf_lo hi]; rfl) (by unfold f_X6_look; rw [third_lo hi]; rfl)
  · exact fin (-2) 0 (by omega) (by unfold f_X5_look; rw [isSf_hi hi]; rfl) (by unfold f_X6_look; rw [third_hi hi]; rfl)
  · have go : ∀ r : Int32, f_X3_markAt (sh a).1 (sh a).2.2.1 (sh a).2.2.2 k = some r → f_X6_lookOf msz mpl (nI a) k = some r → B_look l D B adK adV cC cF cI cZ cM cS xa ad ya am (nI a) k (tx, told, draft, now, guess, past, stored, ist, np, un, sh) (mst, mwy, mmk, mwt, mvl, mof, mw, mf, mun, mik, mtx, mln, mfi, mbe, mrs, mrw, mcl, mdo, mnu, mwd, msz, mso, mpl) := by
      intro r e1 e2
      refine fin r a ha ?_ ?_
      · unfold f_X5_look
        rw [isSf_ok ha]
        simp only [Option.bind_some, if_neg o10]
        rw [gd_iok ha (by omega), gd_sh ha, e1]
        rfl
      · unfold f_X6_look
        rw [third_ok ha]
        simp only [Option.bind_some, if_neg o10]
        rw [e2]
        rfl
    rcases s_look ha (h3 a ha) k with ⟨r, -, e1, e2⟩ | ⟨n, c, v, -, -, -, -, -, e1, e2⟩
    · exact go r e1 e2
    · exact go (nI v) e1 e2
theorem do_lift {l : Launch} {D : va_G} {B : Nat} {adK adV : Nat → Nat} {cC cF cI cZ cM cS : ClassId} {xa : Nat} {ad : Nat → Nat} {ya : Nat} {am : Nat → Nat} {σ : XS} {τ : RS} (hR : RR σ τ) (i k : Int32) : B_lift l D B adK adV cC cF cI cZ cM cS xa ad ya am i k σ τ := by
  obtain ⟨tx, told, draft, now, guess, past, stored, ist, np, un, sh⟩ := σ
  obtain ⟨mst, mwy, mmk, mwt, mvl, mof, mw, mf, mun, mik, mtx, mln, mfi, mbe, mrs, mrw, mcl, mdo, mnu, mwd, msz, mso, mpl⟩ := τ
  obtain ⟨h1, h2, h3, h4⟩ := hR
  simp only at h1 h2 h3 h4
  have stay : ∀ (r : Int32) (j : Nat) (hj : j < 3), f_X5_lift (fun j => ([(ad 109), (ad 111), (ad 113)] : List Nat)[j]?) (ad (109 + 2 * j)) (sh j).1 (sh j).2.2.1 (sh j).2.2.2 i k = some (r, (sh j).2.2.2) → f_X6_lift msz mpl i k = some (r, mpl) → B_lift l D B adK adV cC cF cI cZ cM cS xa ad ya am i k (tx, told, draft, now, guess, past, stored, ist, np, un, sh) (mst, mwy, mmk, mwt, mvl, mof, mw, mf, mun, mik, mtx, mln, mfi, mbe, mrs, mrw, mcl, mdo, mnu, mwd, msz, mso, mpl) := by
    intro r j hj e1 e2
    refine ⟨.int r, _, _, kk_lift l D B adK adV cC cF cI cZ cM cS xa ad (tx, told, draft, now, guess, past, stored, ist, np, un, sh) i k _ j hj e1, k6_lift l D B adK adV cC cF cI cZ cM cS ya am (mst, mwy, mmk, mwt, mvl, mof, mw, mf, mun, mik, mtx, mln, mfi, mbe, mrs, mrw, mcl, mdo, mnu, mwd, msz, mso, mpl) i k (r, mpl) e2, h1, h2, ?_, h4⟩
    show RSh (va_up sh j (sh j)) msz mso mpl
    rw [up_self]
    exact h3
  rcases ix_cases i 3 (by omega) with hi | hi | ⟨a, ha, rfl⟩
  · exact stay (-2) 0 (by omega) (by unfold f_X5_lift; rw [isSf_lo hi]; rfl) (by unfold f_X6_lift; rw [third_lo hi]; rfl)
  · exact stay (-2) 0 (by omega) (by unfold f_X5_lift; rw [isSf_hi hi]; rfl) (by unfold f_X6_lift; rw [third_hi hi]; rfl)
  · rcases s_look ha (h3 a ha) k with ⟨r, hr, e1, e2⟩ | ⟨n, c, v, x1, hn, hc, hv, rfl, e1, e2⟩
    · refine stay r a ha ?_ ?_
      · unfold f_X5_lift
        rw [isSf_ok ha]
        simp only [Option.bind_some, if_neg o10]
        rw [gd_iok ha (by omega), gd_sh ha, e1]
        simp only [Option.bind_some, if_pos hr]
      · unfold f_X6_lift
        rw [third_ok ha]
        simp only [Option.bind_some, if_neg o10]
        rw [e2]
        simp only [Option.bind_some, if_pos hr]
    · have hnn : ¬ nI v < 0 := nneg (by omega)
      have g1 : f_X5_lift (fun j => ([(ad 109), (ad 111), (ad 113)] : List Nat)[j]?) (ad (109 + 2 * a)) (sh a).1 (sh a).2.2.1 (sh a).2.2.2 (nI a) (nI c) = some (nI v, upd (sh a).2.2.2 c (-15)) := by
        unfold f_X5_lift
        rw [isSf_ok ha]
        simp only [Option.bind_some, if_neg o10]
        rw [gd_iok ha (by omega), gd_sh ha, e1]
        simp only [Option.bind_some, if_neg hnn]
        rw [gd_iok ha (by omega), gd_sh ha, gd_iok (by omega) (by omega), cl_nI (by omega)]
      have g2 : f_X6_lift msz mpl (nI a) (nI c) = some (nI v, upd mpl (8 * a + c) (-1)) := by
        unfold f_X6_lift
        rw [third_ok ha]
        simp only [Option.bind_some, if_neg o10]
        rw [e2]
        simp only [Option.bind_some, if_neg hnn]
        simp (disch := omega) only [l8, mu_nI, ad_nI, cl_nI, gd_iok]
      refine ⟨.int (nI v), _, _, kk_lift l D B adK adV cC cF cI cZ cM cS xa ad (tx, told, draft, now, guess, past, stored, ist, np, un, sh) (nI a) (nI c) _ a ha g1, k6_lift l D B adK adV cC cF cI cZ cM cS ya am (mst, mwy, mmk, mwt, mvl, mof, mw, mf, mun, mik, mtx, mln, mfi, mbe, mrs, mrw, mcl, mdo, mnu, mwd, msz, mso, mpl) (nI a) (nI c) _ g2, h1, h2, ?_, h4⟩
      refine RSh_upd h3 ?_ (fun i hi => rfl) (fun i hi => rfl) (fun i hi hne j hj => upd_n (by omega))
      rcases h3 a ha with ⟨m1, m2, m3⟩ | ⟨m1, n', f, hn', hf, m2, m3, m4, m5, m6⟩
      · exact Or.inl ⟨m1, m2, m3⟩
      · refine Or.inr ⟨m1, n', f, hn', hf, m2, m3, m4, m5, fun j hj => ?_⟩
        show RMk (upd (sh a).2.2.2 c (-15) j) (upd mpl (8 * a + c) (-1) (8 * a + j))
        by_cases hjc : j = c
        · subst hjc; rw [upd_s, upd_s]; exact Or.inl ⟨rfl, rfl⟩
        · rw [upd_n hjc, upd_n (by omega)]; exact m6 j hj
theorem p_takes {f mk : Nat} (hf : f < 3) (hm : mk < 2000) : f_X3_takes (nI f) (nI mk) = some (bI (decide (f = 0 ∨ f = if mk < 1000 then 1 else 2))) := by
  unfold f_X3_takes
  simp (disch := omega) only [show (0 : Int32) = nI 0 from rfl, show (1 : Int32) = nI 1 from rfl, show (2 : Int32) = nI 2 from rfl, show (1000 : Int32) = nI 1000 from rfl, eq_nI, le_nI]
  by_cases h0 : f = 0
  · simp [h0, bI]; rfl
  · by_cases h1 : 1000 ≤ mk
    · have : ¬ mk < 1000 := by omega
      by_cases h2 : f = 2 <;> simp [h1, h2, this, bI] <;> simp_all <;> rfl
    · have : mk < 1000 := by omega
      by_cases h2 : f = 1 <;> simp [h0, h1, h2, this, bI] <;> rfl
theorem p6_isOther {mso : Nat → Int32} {a f s : Nat} (ha : a < 3) (hf : f < 3) (hs : s < 3) (h : mso a = nI f) : f_X6_isOther mso (nI a) (nI s) = some (bI (!decide (f = 0 ∨ f = s))) := by
  unfold f_X6_isOther
  simp (disch := omega) only [gd_iok, cl_nI, h, show (0 : Int32) = nI 0 from rfl, eq_nI]
  by_cases h0 : f = 0
  · simp [h0, bI]; rfl
  · by_cases h1 : f = s
    · simp [h0, h1, bI]; rfl
    · simp [h0, h1, bI]
theorem in_1_2 (v : Int32) : f_X6_in v.toInt64 1 2 = some (bI (decide ((1 : Int32) ≤ v) && decide (v ≤ 2))) := by
  rw [show f_X6_in v.toInt64 1 2 = f_X6_in v.toInt64 (1 : Int32).toInt64 (2 : Int32).toInt64 from rfl, q6_in]
theorem s_ref {x : ShT} {msz mso mpl : Nat → Int32} {a s mk : Nat} (ha : a < 3) (hs0 : 1 ≤ s) (hs : s < 3) (hmk : mk < 2000) (hms : s = if mk < 1000 then 1 else 2) (hx : RSf x (msz a) (mso a) (fun j => mpl (8 * a + j))) (k : Int32) :
    (∃ r : Int32, ¬ r = -1 ∧ f_X3_refusalOf x.1 x.2.1 x.2.2.1 k (nI mk) = some r ∧ ((∃ g : Int32, ¬ g = 0 ∧ f_X6_against msz (nI a) k = some g ∧ r = g) ∨ (f_X6_against msz (nI a) k = some 0 ∧ f_X6_isOther mso (nI a) (nI s) = some 1 ∧ r = -14))) ∨
    (∃ n c, n ≤ 8 ∧ c < n ∧ k = nI c ∧ f_X3_refusalOf x.1 x.2.1 x.2.2.1 k (nI mk) = some (-1) ∧ f_X6_against msz (nI a) k = some 0 ∧ f_X6_isOther mso (nI a) (nI s) = some 0) := by
  unfold f_X3_refusalOf
  rcases hx with ⟨m1, m2, m3⟩ | ⟨m1, n, f, hn, hf, m2, m3, m4, m5, m6⟩
  · left
    rw [m1, ag_no ha m3]
    exact ⟨-11, by decide, rfl, Or.inl ⟨-11, by decide, rfl, rfl⟩⟩
  · rw [if_pos m1, m4, m2]
    rcases ix_cases k n (by omega) with hk | hk | ⟨c, hc, rfl⟩
    · left
      rw [hp_lo hk, ag_lo ha hn m5 hk]
      exact ⟨-13, by decide, rfl, Or.inl ⟨-13, by decide, rfl, rfl⟩⟩
    · left
      rw [hp_hi hn hk, ag_hi ha hn m5 hk]
      exact ⟨-13, by decide, rfl, Or.inl ⟨-13, by decide, rfl, rfl⟩⟩
    · rw [hp_ok hn hc, ag_ok ha hn m5 hc, p_takes hf hmk, p6_isOther ha hf hs m3, hms]
      cases hd : decide (f = 0 ∨ f = if mk < 1000 then 1 else 2) with
      | false => exact Or.inl ⟨-14, by decide, rfl, Or.inr ⟨rfl, rfl, rfl⟩⟩
      | true => exact Or.inr ⟨n, c, hn, hc, rfl, rfl, rfl, rfl⟩
theorem do_lay {l : Launch} {D : va_G} {B : Nat} {adK adV : Nat → Nat} {cC cF cI cZ cM cS : ClassId} {xa : Nat} {ad : Nat → Nat} {ya : Nat} {am : Nat → Nat} {σ : XS} {τ : RS} (hR : RR σ τ) (i k so v : Int32) : B_lay l D B adK adV cC cF cI cZ cM cS xa ad ya am i k so v σ τ := by
  obtain ⟨tx, told, draft, now, guess, past, stored, ist, np, un, sh⟩ := σ
  obtain ⟨mst, mwy, mmk, mwt, mvl, mof, mw, mf, mun, mik, mtx, mln, mfi, mbe, mrs, mrw, mcl, mdo, mnu, mwd, msz, mso, mpl⟩ := τ
  obtain ⟨h1, h2, h3, h4⟩ := hR
  simp only at h1 h2 h3 h4
  have stay : ∀ (r : Int32) (j : Nat) (hj : j < 3), f_X5_lay (fun j => ([(ad 109), (ad 111), (ad 113)] : List Nat)[j]?) (ad (109 + 2 * j)) (sh j).1 (sh j).2.1 (sh j).2.2.1 (sh j).2.2.2 i k so v = some (r, (sh j).2.2.2) → f_X6_lay msz mso mpl i k so v = some (r, mpl) → B_lay l D B adK adV cC cF cI cZ cM cS xa ad ya am i k so v (tx, told, draft, now, guess, past, stored, ist, np, un, sh) (mst, mwy, mmk, mwt, mvl, mof, mw, mf, mun, mik, mtx, mln, mfi, mbe, mrs, mrw, mcl, mdo, mnu, mwd, msz, mso, mpl) := by
    intro r j hj e1 e2
    refine ⟨.int r, _, _, kk_lay l D B adK adV cC cF cI cZ cM cS xa ad (tx, told, draft, now, guess, past, stored, ist, np, un, sh) i k so v _ j hj e1, k6_lay l D B adK adV cC cF cI cZ cM cS ya am (mst, mwy, mmk, mwt, mvl, mof, mw, mf, mun, mik, mtx, mln, mfi, mbe, mrs, mrw, mcl, mdo, mnu, mwd, msz, mso, mpl) i k so v (r, mpl) e2, h1, h2, ?_, h4⟩
    show RSh (va_up sh j (sh j)) msz mso mpl
    rw [up_self]
    exact h3
  rcases ix_cases i 3 (by omega) with hi | hi | ⟨a, ha, rfl⟩
  · exact stay (-2) 0 (by omega) (by unfold f_X5_lay; rw [isSf_lo hi]; rfl) (by unfold f_X6_lay; rw [third_lo hi]; rfl)
  · exact stay (-2) 0 (by omega) (by unfold f_X5_lay; rw [isSf_hi hi]; rfl) (by unfold f_X6_lay; rw [third_hi hi]; rfl)
  · by_cases s1 : so < 1
    · exact stay (-3) a ha (by unfold f_X5_lay; rw [isSf_ok ha]; simp only [Option.bind_some, if_neg o10]; rw [if_pos s1]) (by
        unfold f_X6_lay
        rw [third_ok ha, in_1_2, decide_eq_false (show ¬ (1 : Int32) ≤ so from fun z => (nlt_le.mpr z) s1)]
        rfl)
    · by_cases s2 : 2 < so
      · exact stay (-3) a ha (by unfold f_X5_lay; rw [isSf_ok ha]; simp only [Option.bind_some, if_neg o10]; rw [if_neg s1, if_pos s2]) (by
          unfold f_X6_lay
          rw [third_ok ha, in_1_2, decide_eq_false (show ¬ so ≤ 2 from fun z => (nlt_le.mpr z) s2), Bool.and_false]
          rfl)
      · have es : f_X6_in so.toInt64 1 2 = some 1 := by rw [in_1_2, decide_eq_true (nlt_le.mp s1), decide_eq_true (nlt_le.mp s2)]; rfl
        obtain ⟨s, hs0, hs, rfl⟩ : ∃ s, 1 ≤ s ∧ s < 3 ∧ so = nI s := by
          rcases ix_cases so 3 (by omega) with hi | hi | ⟨b, hb, rfl⟩
          · exact absurd (show so < 1 by rw [toInt_lt] at hi ⊢; rw [ti0] at hi; rw [show (1 : Int32).toInt = 1 from by decide]; omega) s1
          · exact absurd (show (2 : Int32) < so from by rw [toInt_lt]; rw [toInt_le, nI_ti (by omega)] at hi; rw [show (2 : Int32).toInt = 2 from by decide]; omega) s2
          · refine ⟨b, ?_, hb, rfl⟩
            rw [show (1 : Int32) = nI 1 from rfl, lt_nI (by omega) (by omega)] at s1
            omega
        have e9 : f_X6_in v.toInt64 0 999 = f_X6_in v.toInt64 0 (nI 1000 - 1).toInt64 := rfl
        rcases ix_cases v 1000 (by omega) with hv | hv | ⟨w, hw, rfl⟩
        · exact stay (-3) a ha (by unfold f_X5_lay; rw [isSf_ok ha]; simp only [Option.bind_some, if_neg o10]; rw [if_neg s1, if_neg s2, if_pos hv]) (by
            unfold f_X6_lay
            rw [third_ok ha, es, e9, in_lo hv]
            rfl)
        · exact stay (-3) a ha (by unfold f_X5_lay; rw [isSf_ok ha]; simp only [Option.bind_some, if_neg o10]; rw [if_neg s1, if_neg s2, if_neg (ge_neg (by omega) hv), if_neg (show ¬ v < 1000 from ge_lt (k := 1000) (by omega) hv (by omega))]) (by
            unfold f_X6_lay
            rw [third_ok ha, es, e9, in_hi (by omega) hv]
            rfl)
        · have v1 : ¬ nI w < 0 := nneg (by omega)
          have v2 : nI w < 1000 := by show nI w < nI 1000; rw [lt_nI (by omega) (by omega)]; exact hw
          have hmk : (if s = 1 then w else 1000 + w) < 2000 := by split <;> omega
          have hms : s = if (if s = 1 then w else 1000 + w) < 1000 then 1 else 2 := by
            by_cases h : s = 1
            · simp [h, hw]
            · have h' : ¬ 1000 + w < 1000 := by omega
              simp only [h, if_false, h']
              omega
          have e5 : f_X5_lay (fun j => ([(ad 109), (ad 111), (ad 113)] : List Nat)[j]?) (ad (109 + 2 * a)) (sh a).1 (sh a).2.1 (sh a).2.2.1 (sh a).2.2.2 (nI a) k (nI s) (nI w) = (f_X3_refusalOf (sh a).1 (sh a).2.1 (sh a).2.2.1 k (nI (if s = 1 then w else 1000 + w))).bind fun r => if r = -1 then gd (iok k 8) (some (nI w, upd (sh a).2.2.2 k.toNatClampNeg (nI (if s = 1 then w else 1000 + w)))) else some (r, (sh a).2.2.2) := by
            unfold f_X5_lay
            rw [isSf_ok ha]
            simp only [Option.bind_some, if_neg o10]
            rw [if_neg s1, if_neg s2, if_neg v1, if_pos v2]
            by_cases hs1 : s = 1
            · subst hs1
              rw [if_pos (show nI 1 = 1 from rfl), gd_iok ha (by omega), gd_sh ha]
              simp only [if_true]
              congr 1
              funext r
              rw [gd_iok ha (by omega), gd_sh ha]
            · rw [if_neg (show ¬ nI s = 1 by show ¬ nI s = nI 1; rw [eq_nI (by omega) (by omega)]; exact hs1), gd_iok ha (by omega), gd_sh ha]
              simp only [if_neg hs1, show (1000 : Int32) = nI 1000 from rfl, ad_nI]
              congr 1
              funext r
              rw [gd_iok ha (by omega), gd_sh ha]
          have e6 : f_X6_lay msz mso mpl (nI a) k (nI s) (nI w) = (f_X6_against msz (nI a) k).bind fun r10 => if r10 = 0 then (f_X6_isOther mso (nI a) (nI s)).bind fun r13 => if r13 = 0 then gd (iok (((8 : Int32) * nI a) + k) 24) (some (nI w, upd mpl ((((8 : Int32) * nI a) + k).toNatClampNeg) (nI (if s = 1 then w else 1000 + w)))) else some (-14, mpl) else some (r10, mpl) := by
            unfold f_X6_lay
            rw [third_ok ha, es, e9, in_ok (by omega) hw]
            simp only [Option.bind_some, if_neg o10]
            by_cases hs1 : s = 1
            · subst hs1
              simp only [show (1 : Int32) = nI 1 from rfl, if_true]
            · have : ¬ nI s = 1 := by show ¬ nI s = nI 1; rw [eq_nI (by omega) (by omega)]; exact hs1
              simp only [this, hs1, if_false, show (1000 : Int32) = nI 1000 from rfl, ad_nI]
          rcases s_ref ha hs0 hs hmk hms (h3 a ha) k with ⟨r, hr, g1, ⟨g, hg, g2, g3⟩ | ⟨g2, g3, g4⟩⟩ | ⟨n, c, hn, hc, rfl, g1, g2, g3⟩
          · exact stay r a ha (by rw [e5, g1]; simp only [Option.bind_some, if_neg hr]) (by rw [e6, g2]; simp only [Option.bind_some, if_neg hg, g3])
          · exact stay r a ha (by rw [e5, g1]; simp only [Option.bind_some, if_neg hr]) (by rw [e6, g2, g3]; simp only [Option.bind_some, if_true, if_neg o10, g4])
          · have x5 : f_X5_lay (fun j => ([(ad 109), (ad 111), (ad 113)] : List Nat)[j]?) (ad (109 + 2 * a)) (sh a).1 (sh a).2.1 (sh a).2.2.1 (sh a).2.2.2 (nI a) (nI c) (nI s) (nI w) = some (nI w, upd (sh a).2.2.2 c (nI (if s = 1 then w else 1000 + w))) := by
              rw [e5, g1]
              simp only [Option.bind_some, if_true]
              rw [gd_iok (by omega) (by omega), cl_nI (by omega)]
            have x6 : f_X6_lay msz mso mpl (nI a) (nI c) (nI s) (nI w) = some (nI w, upd mpl (8 * a + c) (nI (if s = 1 then w else 1000 + w))) := by
              rw [e6, g2, g3]
              simp only [Option.bind_some, if_true]
              simp (disch := omega) only [l8, mu_nI, ad_nI, cl_nI, gd_iok]
            refine ⟨.int (nI w), _, _, kk_lay l D B adK adV cC cF cI cZ cM cS xa ad (tx, told, draft, now, guess, past, stored, ist, np, un, sh) (nI a) (nI c) (nI s) (nI w) _ a ha x5, k6_lay l D B adK adV cC cF cI cZ cM cS ya am (mst, mwy, mmk, mwt, mvl, mof, mw, mf, mun, mik, mtx, mln, mfi, mbe, mrs, mrw, mcl, mdo, mnu, mwd, msz, mso, mpl) (nI a) (nI c) (nI s) (nI w) _ x6, h1, h2, ?_, h4⟩
            refine RSh_upd h3 ?_ (fun i hi => rfl) (fun i hi => rfl) (fun i hi hne j hj => upd_n (by omega))
            rcases h3 a ha with ⟨m1, m2, m3⟩ | ⟨m1, n', f, hn', hf, m2, m3, m4, m5, m6⟩
            · exact Or.inl ⟨m1, m2, m3⟩
            · refine Or.inr ⟨m1, n', f, hn', hf, m2, m3, m4, m5, fun j hj => ?_⟩
              show RMk (upd (sh a).2.2.2 c (nI (if s = 1 then w else 1000 + w)) j) (upd mpl (8 * a + c) (nI (if s = 1 then w else 1000 + w)) (8 * a + j))
              by_cases hjc : j = c
              · subst hjc; rw [upd_s, upd_s]; exact Or.inr ⟨_, hmk, rfl, rfl⟩
              · rw [upd_n hjc, upd_n (by omega)]; exact m6 j hj
