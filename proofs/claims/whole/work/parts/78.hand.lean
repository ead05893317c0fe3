/-! ===== likeness, hand ===== -/
theorem p6_like_L {a b : Nat} (ha : a < 3) (hb : b < 3) : ∀ (k n x : Nat) (pl : Nat → Int32), k = 8 - x → x ≤ 8 → k < n → f_X6_likeness_L55 (nI b) (nI a) n (nI x) pl = some (nI 8, fun j => if 8 * a + x ≤ j ∧ j < 8 * a + 8 then pl (j + 8 * b - 8 * a) else pl j) := by
  intro k
  induction k with
  | zero =>
    intro n x pl hk hx hn
    obtain ⟨n, rfl⟩ : ∃ m, n = m + 1 := ⟨n - 1, by omega⟩
    have : x = 8 := by omega
    subst this
    unfold f_X6_likeness_L55
    rw [if_pos (show (8 : Int32) ≤ nI 8 from Int32.le_refl _)]
    congr 2
    funext j
    rw [if_neg (by omega)]
  | succ k ih =>
    intro n x pl hk hx hn
    obtain ⟨n, rfl⟩ : ∃ m, n = m + 1 := ⟨n - 1, by omega⟩
    unfold f_X6_likeness_L55
    rw [if_neg (show ¬ (8 : Int32) ≤ nI x by show ¬ nI 8 ≤ nI x; rw [le_nI (by omega) (by omega)]; omega)]
    simp (disch := omega) only [l8, mu_nI, ad_nI, ad1, gd_iok, cl_nI]
    rw [ih n (x + 1) _ (by omega) (by omega) (by omega)]
    congr 2
    funext j
    by_cases h1 : j = 8 * a + x
    · subst h1; rw [if_neg (by omega), upd_s, if_pos (by omega)]; congr 1; omega
    · by_cases h2 : 8 * a + x ≤ j ∧ j < 8 * a + 8
      · rw [if_pos (by omega), if_pos h2, upd_n (by omega)]
      · rw [if_neg (by omega), if_neg h2, upd_n h1]
theorem cp8 {f g : Nat → Int32} {j : Nat} (h : j < 8) : va_cpy f g 0 0 8 j = f j := by
  rw [pk_cpy_in (Nat.zero_le _) (by omega)]
  simp
theorem RSf_cp {x : ShT} {sz so : Int32} {pl pl' : Nat → Int32} {g : Nat → Int32} (h : RSf x sz so pl) (hp : ∀ j, j < 8 → pl' j = pl j) : RSf (x.1, x.2.1, x.2.2.1, va_cpy x.2.2.2 g 0 0 8) sz so pl' := by
  rcases h with h | ⟨h1, n, f, h2, h3, h4, h5, h6, h7, h8⟩
  · exact Or.inl h
  · refine Or.inr ⟨h1, n, f, h2, h3, h4, h5, h6, h7, fun j hj => ?_⟩
    show RMk (va_cpy x.2.2.2 g 0 0 8 j) _
    rw [hp j (by omega), cp8 (by omega)]
    exact h8 j hj
theorem do_likeness {l : Launch} {D : va_G} {B : Nat} {adK adV : Nat → Nat} {cC cF cI cZ cM cS : ClassId} {xa : Nat} {ad : Nat → Nat} {ya : Nat} {am : Nat → Nat} {σ : XS} {τ : RS} (hR : RR σ τ) (i j : Int32) : B_likeness l D B adK adV cC cF cI cZ cM cS xa ad ya am i j σ τ := by
  obtain ⟨tx, told, draft, now, guess, past, stored, ist, np, un, sh⟩ := σ
  obtain ⟨mst, mwy, mmk, mwt, mvl, mof, mw, mf, mun, mik, mtx, mln, mfi, mbe, mrs, mrw, mcl, mdo, mnu, mwd, msz, mso, mpl⟩ := τ
  obtain ⟨h1, h2, h3, h4⟩ := hR
  simp only at h1 h2 h3 h4
  have stay : ∀ (r : Int32) (q : Nat) (hq : q < 3), f_X5_likeness_s (fun j => ([(ad 109), (ad 111), (ad 113)] : List Nat)[j]?) (ad (109 + 2 * q)) (sh q).1 (sh q).2.2.1 (sh q).2.2.2 i j = some (r, (sh q).2.2.2) → f_X6_likeness msz mso mpl i j = some (r, msz, mso, mpl) → B_likeness l D B adK adV cC cF cI cZ cM cS xa ad ya am i j (tx, told, draft, now, guess, past, stored, ist, np, un, sh) (mst, mwy, mmk, mwt, mvl, mof, mw, mf, mun, mik, mtx, mln, mfi, mbe, mrs, mrw, mcl, mdo, mnu, mwd, msz, mso, mpl) := by
    intro r q hq e1 e2
    refine ⟨.int r, _, _, kk_likeness_s l D B adK adV cC cF cI cZ cM cS xa ad (tx, told, draft, now, guess, past, stored, ist, np, un, sh) i j _ q hq e1, k6_likeness l D B adK adV cC cF cI cZ cM cS ya am (mst, mwy, mmk, mwt, mvl, mof, mw, mf, mun, mik, mtx, mln, mfi, mbe, mrs, mrw, mcl, mdo, mnu, mwd, msz, mso, mpl) i j (r, msz, mso, mpl) e2, h1, h2, ?_, h4⟩
    show RSh (va_up sh q (sh q)) msz mso mpl
    rw [up_self]
    exact h3
  rcases ix_cases i 3 (by omega) with hi | hi | ⟨a, ha, rfl⟩
  · exact stay (-2) 0 (by omega) (by unfold f_X5_likeness_s; rw [isSf_lo hi]; rfl) (by unfold f_X6_likeness; rw [third_lo hi]; rfl)
  · exact stay (-2) 0 (by omega) (by unfold f_X5_likeness_s; rw [isSf_hi hi]; rfl) (by unfold f_X6_likeness; rw [third_hi hi]; rfl)
  · rcases ix_cases j 3 (by omega) with hj | hj | ⟨b, hb, rfl⟩
    · exact stay (-2) a ha (by unfold f_X5_likeness_s; rw [isSf_ok ha, isSf_lo hj]; rfl) (by unfold f_X6_likeness; rw [third_ok ha, third_lo hj]; rfl)
    · exact stay (-2) a ha (by unfold f_X5_likeness_s; rw [isSf_ok ha, isSf_hi hj]; rfl) (by unfold f_X6_likeness; rw [third_ok ha, third_hi hj]; rfl)
    · rcases h3 b hb with ⟨m1, m2, m3⟩ | ⟨m1, n, f, hn, hf, m2, m3, m4, m5, m6⟩
      · have e2 : f_X6_likeness msz mso mpl (nI a) (nI b) = some (-11, msz, mso, mpl) := by
          unfold f_X6_likeness
          rw [third_ok ha, third_ok hb]
          simp only [Option.bind_some, if_neg o10]
          rw [gd_iok hb (by omega), if_neg (show ¬ 0 ≤ msz (nI b).toNatClampNeg by rw [cl_nI (by omega), m3]; decide)]
        by_cases hab : a = b
        · subst hab
          refine stay (-11) a ha ?_ e2
          unfold f_X5_likeness_s
          rw [isSf_ok ha]
          simp only [Option.bind_some, if_neg o10]
          rw [gd_iok ha (by omega), gd_sh ha, if_neg (by rw [m1]; exact o10)]
        · have e1 : f_X5_likeness_d (fun j => ([(ad 109), (ad 111), (ad 113)] : List Nat)[j]?) (ad (109 + 2 * a)) (sh a).1 (sh a).2.1 (sh a).2.2.1 (sh a).2.2.2 (ad (109 + 2 * b)) (sh b).1 (sh b).2.1 (sh b).2.2.1 (sh b).2.2.2 (nI a) (nI b) = some (-11, (sh a).2.2.2, (sh a).1, (sh a).2.1, (sh a).2.2.1) := by
            unfold f_X5_likeness_d
            rw [isSf_ok ha, isSf_ok hb]
            simp only [Option.bind_some, if_neg o10]
            rw [gd_iok hb (by omega), gd_sh hb, if_neg (by rw [m1]; exact o10)]
          refine ⟨.int (-11), _, _, kk_likeness_d l D B adK adV cC cF cI cZ cM cS xa ad (tx, told, draft, now, guess, past, stored, ist, np, un, sh) (nI a) (nI b) _ a b ha hb hab e1, k6_likeness l D B adK adV cC cF cI cZ cM cS ya am (mst, mwy, mmk, mwt, mvl, mof, mw, mf, mun, mik, mtx, mln, mfi, mbe, mrs, mrw, mcl, mdo, mnu, mwd, msz, mso, mpl) (nI a) (nI b) _ e2, h1, h2, ?_, h4⟩
          show RSh (va_up sh a (sh a)) msz mso mpl
          rw [up_self]
          exact h3
      · have e2 : f_X6_likeness msz mso mpl (nI a) (nI b) = some (nI n, upd msz a (nI n), upd mso a (mso b), fun j => if 8 * a + 0 ≤ j ∧ j < 8 * a + 8 then mpl (j + 8 * b - 8 * a) else mpl j) := by
          unfold f_X6_likeness
          rw [third_ok ha, third_ok hb]
          simp only [Option.bind_some, if_neg o10]
          rw [gd_iok hb (by omega), if_pos (ag_pos hb hn m5), gd_iok hb (by omega), gd_iok ha (by omega), gd_iok hb (by omega), gd_iok ha (by omega), show f_X6_likeness_L55 (nI b) (nI a) 1000 0 mpl = f_X6_likeness_L55 (nI b) (nI a) 1000 (nI 0) mpl from rfl, p6_like_L ha hb 8 1000 0 mpl (by omega) (by omega) (by omega)]
          simp only [Option.bind_some]
          rw [gd_iok ha (by omega), cl_nI (show a < 2147483648 by omega), cl_nI (show b < 2147483648 by omega), upd_s, m5]
        have hnew : RSf ((sh b).1, (sh b).2.1, (sh b).2.2.1, va_cpy (sh b).2.2.2 (sh a).2.2.2 0 0 8) (upd msz a (nI n) a) (upd mso a (mso b) a) (fun j => if 8 * a + 0 ≤ 8 * a + j ∧ 8 * a + j < 8 * a + 8 then mpl (8 * a + j + 8 * b - 8 * a) else mpl (8 * a + j)) := by
          rw [upd_s, upd_s, ← m5]
          refine RSf_cp (h3 b hb) (fun j hj => ?_)
          show (if _ then _ else _) = _
          rw [if_pos (by omega)]
          congr 1
          omega
        by_cases hab : a = b
        · subst hab
          have e1 : f_X5_likeness_s (fun j => ([(ad 109), (ad 111), (ad 113)] : List Nat)[j]?) (ad (109 + 2 * a)) (sh a).1 (sh a).2.2.1 (sh a).2.2.2 (nI a) (nI a) = some (nI n, va_cpy (sh a).2.2.2 (sh a).2.2.2 0 0 8) := by
            unfold f_X5_likeness_s f_X3_copyFrom_s
            rw [isSf_ok ha]
            simp only [Option.bind_some, if_neg o10]
            rw [gd_iok ha (by omega), gd_sh ha, if_pos m1, gd_iok ha (by omega), gd_sh ha, gd_iok ha (by omega), gd_sh ha, gd_t (show zok (sh a).1 from by rw [m1]; exact Or.inl rfl)]
            simp only [Option.bind_some]
            rw [gd_iok ha (by omega), gd_sh ha, m4]
          refine ⟨.int (nI n), _, _, kk_likeness_s l D B adK adV cC cF cI cZ cM cS xa ad (tx, told, draft, now, guess, past, stored, ist, np, un, sh) (nI a) (nI a) _ a ha e1, k6_likeness l D B adK adV cC cF cI cZ cM cS ya am (mst, mwy, mmk, mwt, mvl, mof, mw, mf, mun, mik, mtx, mln, mfi, mbe, mrs, mrw, mcl, mdo, mnu, mwd, msz, mso, mpl) (nI a) (nI a) _ e2, h1, h2, ?_, h4⟩
          exact RSh_upd h3 hnew (fun i hi => upd_n hi) (fun i hi => upd_n hi) (fun i hi hne j hj => by
            show (if _ then _ else _) = _
            rw [if_neg (by omega)])
        · have e1 : f_X5_likeness_d (fun j => ([(ad 109), (ad 111), (ad 113)] : List Nat)[j]?) (ad (109 + 2 * a)) (sh a).1 (sh a).2.1 (sh a).2.2.1 (sh a).2.2.2 (ad (109 + 2 * b)) (sh b).1 (sh b).2.1 (sh b).2.2.1 (sh b).2.2.2 (nI a) (nI b) = some (nI n, va_cpy (sh b).2.2.2 (sh a).2.2.2 0 0 8, (sh b).1, (sh b).2.1, (sh b).2.2.1) := by
            unfold f_X5_likeness_d f_X3_copyFrom
            rw [isSf_ok ha, isSf_ok hb]
            simp only [Option.bind_some, if_neg o10]
            rw [gd_iok hb (by omega), gd_sh hb, if_pos m1, gd_iok ha (by omega), gd_sh ha, gd_iok hb (by omega), gd_sh hb, gd_t (show zok (sh b).1 from by rw [m1]; exact Or.inl rfl)]
            simp only [Option.bind_some]
            rw [gd_iok ha (by omega), gd_sh ha, m4]
          refine ⟨.int (nI n), _, _, kk_likeness_d l D B adK adV cC cF cI cZ cM cS xa ad (tx, told, draft, now, guess, past, stored, ist, np, un, sh) (nI a) (nI b) _ a b ha hb hab e1, k6_likeness l D B adK adV cC cF cI cZ cM cS ya am (mst, mwy, mmk, mwt, mvl, mof, mw, mf, mun, mik, mtx, mln, mfi, mbe, mrs, mrw, mcl, mdo, mnu, mwd, msz, mso, mpl) (nI a) (nI b) _ e2, h1, h2, ?_, h4⟩
          exact RSh_upd h3 hnew (fun i hi => upd_n hi) (fun i hi => upd_n hi) (fun i hi hne j hj => by
            show (if _ then _ else _) = _
            rw [if_neg (by omega)])
