/-! ===== shelves ===== -/
theorem shf {ad : Nat → Nat} : ∀ j, j < 3 → (fun j => ([(ad 109), (ad 111), (ad 113)] : List Nat)[j]?) j = some (ad (109 + 2 * j)) := by
  intro j hj
  match j, hj with
  | 0, _ => rfl
  | 1, _ => rfl
  | 2, _ => rfl
theorem gd_sh {α : Type} {ad : Nat → Nat} {j : Nat} {x : Option α} (hj : j < 3) : gd ((fun j => ([(ad 109), (ad 111), (ad 113)] : List Nat)[j]?) (nI j).toNatClampNeg = some (ad (109 + 2 * j))) x = x := gd_t (by rw [cl_nI (by omega)]; exact shf j hj)
theorem isSf_lo {i : Int32} (h : i < 0) : f_X5_isShelf i = some 0 := by unfold f_X5_isShelf; rw [if_pos h]
theorem isSf_hi {i : Int32} (h : nI 3 ≤ i) : f_X5_isShelf i = some 0 := by unfold f_X5_isShelf; rw [if_neg (ge_neg (by omega) h), if_pos (show (3 : Int32) ≤ i from h)]
theorem isSf_ok {j : Nat} (h : j < 3) : f_X5_isShelf (nI j) = some 1 := by unfold f_X5_isShelf; rw [if_neg (nneg (by omega)), if_neg (show ¬ (3 : Int32) ≤ nI j by show ¬ nI 3 ≤ nI j; rw [le_nI (by omega) (by omega)]; omega)]
theorem RSf_congr {x : ShT} {sz so : Int32} {pl pl' : Nat → Int32} (h : RSf x sz so pl) (hp : ∀ j, j < 8 → pl' j = pl j) : RSf x sz so pl' := by
  rcases h with h | ⟨h1, n, f, h2, h3, h4, h5, h6, h7, h8⟩
  · exact Or.inl h
  · exact Or.inr ⟨h1, n, f, h2, h3, h4, h5, h6, h7, fun j hj => by rw [hp j (by omega)]; exact h8 j hj⟩
theorem RSh_upd {sh : Nat → ShT} {msz mso mpl msz' mso' mpl' : Nat → Int32} {a : Nat} {x : ShT} (h : RSh sh msz mso mpl) (hx : RSf x (msz' a) (mso' a) (fun j => mpl' (8 * a + j))) (hz : ∀ i, i ≠ a → msz' i = msz i) (ho : ∀ i, i ≠ a → mso' i = mso i) (hp : ∀ i, i < 3 → i ≠ a → ∀ j, j < 8 → mpl' (8 * i + j) = mpl (8 * i + j)) : RSh (va_up sh a x) msz' mso' mpl' := by
  intro i hi
  by_cases e : i = a
  · subst e; rw [up_s]; exact hx
  · rw [up_n e, hz i e, ho i e]
    exact RSf_congr (h i hi) (hp i hi e)
theorem p_makeNew (mk : Nat → Int32) (so cnt : Int32) : f_X3_makeNew mk so cnt = some (fun j => if j < 8 then -15 else mk j, 0, so, cnt) := by
  unfold f_X3_makeNew
  rw [p_fillI (by omega)]
  rfl
theorem p6_shelf_L {a : Nat} (ha : a < 3) : ∀ (k n x : Nat) (pl : Nat → Int32), k = 8 - x → x ≤ 8 → k < n → f_X6_shelf_L50 (nI a) n (nI x) pl = some (nI 8, fun j => if 8 * a + x ≤ j ∧ j < 8 * a + 8 then -1 else pl j) := by
  intro k
  induction k with
  | zero =>
    intro n x pl hk hx hn
    obtain ⟨n, rfl⟩ : ∃ m, n = m + 1 := ⟨n - 1, by omega⟩
    have : x = 8 := by omega
    subst this
    unfold f_X6_shelf_L50
    rw [if_pos (show (8 : Int32) ≤ nI 8 from Int32.le_refl _)]
    congr 2
    funext j
    rw [if_neg (by omega)]
  | succ k ih =>
    intro n x pl hk hx hn
    obtain ⟨n, rfl⟩ : ∃ m, n = m + 1 := ⟨n - 1, by omega⟩
    unfold f_X6_shelf_L50
    rw [if_neg (show ¬ (8 : Int32) ≤ nI x by show ¬ nI 8 ≤ nI x; rw [le_nI (by omega) (by omega)]; omega)]
    simp (disch := omega) only [l8, mu_nI, ad_nI, ad1, gd_iok, cl_nI]
    rw [ih n (x + 1) _ (by omega) (by omega) (by omega)]
    congr 2
    funext j
    by_cases h1 : j = 8 * a + x
    · subst h1; rw [if_neg (by omega), upd_s, if_pos (by omega)]
    · by_cases h2 : 8 * a + x ≤ j ∧ j < 8 * a + 8
      · rw [if_pos (by omega), if_pos h2]
      · rw [if_neg (by omega), if_neg h2, upd_n h1]
theorem do_shelf {l : Launch} {D : va_G} {B : Nat} {adK adV : Nat → Nat} {cC cF cI cZ cM cS : ClassId} {xa : Nat} {ad : Nat → Nat} {ya : Nat} {am : Nat → Nat} {σ : XS} {τ : RS} (hR : RR σ τ) (i so cnt : Int32) : B_shelf l D B adK adV cC cF cI cZ cM cS xa ad ya am i so cnt σ τ := by
  obtain ⟨tx, told, draft, now, guess, past, stored, ist, np, un, sh⟩ := σ
  obtain ⟨mst, mwy, mmk, mwt, mvl, mof, mw, mf, mun, mik, mtx, mln, mfi, mbe, mrs, mrw, mcl, mdo, mnu, mwd, msz, mso, mpl⟩ := τ
  obtain ⟨h1, h2, h3, h4⟩ := hR
  simp only at h1 h2 h3 h4
  have stay : ∀ (r : Int32) (j : Nat) (hj : j < 3), f_X5_shelf (fun j => ([(ad 109), (ad 111), (ad 113)] : List Nat)[j]?) (ad (109 + 2 * j)) (sh j).1 (sh j).2.1 (sh j).2.2.1 (sh j).2.2.2 i so cnt = some (r, (sh j).2.2.2, (sh j).1, (sh j).2.1, (sh j).2.2.1) → f_X6_shelf msz mso mpl i so cnt = some (r, msz, mso, mpl) → B_shelf l D B adK adV cC cF cI cZ cM cS xa ad ya am i so cnt (tx, told, draft, now, guess, past, stored, ist, np, un, sh) (mst, mwy, mmk, mwt, mvl, mof, mw, mf, mun, mik, mtx, mln, mfi, mbe, mrs, mrw, mcl, mdo, mnu, mwd, msz, mso, mpl) := by
    intro r j hj e1 e2
    refine ⟨.int r, _, _, kk_shelf l D B adK adV cC cF cI cZ cM cS xa ad (tx, told, draft, now, guess, past, stored, ist, np, un, sh) i so cnt _ j hj e1, k6_shelf l D B adK adV cC cF cI cZ cM cS ya am (mst, mwy, mmk, mwt, mvl, mof, mw, mf, mun, mik, mtx, mln, mfi, mbe, mrs, mrw, mcl, mdo, mnu, mwd, msz, mso, mpl) i so cnt (r, msz, mso, mpl) e2, h1, h2, ?_, h4⟩
    show RSh (va_up sh j (sh j)) msz mso mpl
    rw [up_self]
    exact h3
  rcases ix_cases i 3 (by omega) with hi | hi | ⟨a, ha, rfl⟩
  · exact stay (-2) 0 (by omega) (by unfold f_X5_shelf; rw [isSf_lo hi]; rfl) (by unfold f_X6_shelf; rw [third_lo hi]; rfl)
  · exact stay (-2) 0 (by omega) (by unfold f_X5_shelf; rw [isSf_hi hi]; rfl) (by unfold f_X6_shelf; rw [third_hi hi]; rfl)
  · rcases ix_cases so 3 (by omega) with hs | hs | ⟨f, hf, rfl⟩
    · exact stay (-3) a ha (by unfold f_X5_shelf; rw [isSf_ok ha]; simp only [Option.bind_some, if_neg o10]; rw [if_pos hs]) (by unfold f_X6_shelf; rw [third_ok ha, third_lo hs]; rfl)
    · exact stay (-3) a ha (by unfold f_X5_shelf; rw [isSf_ok ha]; simp only [Option.bind_some, if_neg o10]; rw [if_neg (ge_neg (by omega) hs), if_pos (show (2 : Int32) < so from by rw [toInt_lt]; rw [toInt_le, nI_ti (by omega)] at hs; rw [show (2 : Int32).toInt = 2 from by decide]; omega)]) (by unfold f_X6_shelf; rw [third_ok ha, third_hi hs]; rfl)
    · have s1 : ¬ nI f < 0 := nneg (by omega)
      have s2 : ¬ (2 : Int32) < nI f := by show ¬ nI 2 < nI f; rw [lt_nI (by omega) (by omega)]; omega
      by_cases c1 : cnt ≤ 8
      · by_cases c2 : 0 ≤ cnt
        · obtain ⟨n, hn, rfl⟩ : ∃ n, n < 9 ∧ cnt = nI n := by
            rcases ix_cases cnt 9 (by omega) with hi | hi | ⟨b, hb, he⟩
            · exact absurd hi (nlt_le.mpr c2)
            · exact absurd c1 (ge_le (k := 8) (by omega) hi (by omega))
            · exact ⟨b, hb, he⟩
          have e1 : f_X5_shelf (fun j => ([(ad 109), (ad 111), (ad 113)] : List Nat)[j]?) (ad (109 + 2 * a)) (sh a).1 (sh a).2.1 (sh a).2.2.1 (sh a).2.2.2 (nI a) (nI f) (nI n) = some (nI n, (fun j => if j < 8 then -15 else (sh a).2.2.2 j), 0, nI f, nI n) := by
            unfold f_X5_shelf
            rw [isSf_ok ha]
            simp only [Option.bind_some, if_neg o10]
            rw [if_neg s1, if_neg s2, if_pos c1, if_pos c2, gd_iok ha (by omega), gd_sh ha, p_makeNew]
            rfl
          have e2 : f_X6_shelf msz mso mpl (nI a) (nI f) (nI n) = some (nI n, upd msz a (nI n), upd mso a (nI f), fun j => if 8 * a + 0 ≤ j ∧ j < 8 * a + 8 then -1 else mpl j) := by
            unfold f_X6_shelf
            rw [third_ok ha, third_ok hf]
            simp only [Option.bind_some, if_neg o10]
            rw [if_pos c1, if_pos c2, gd_iok ha (by omega), gd_iok ha (by omega), show f_X6_shelf_L50 (nI a) 1000 0 mpl = f_X6_shelf_L50 (nI a) 1000 (nI 0) mpl from rfl, p6_shelf_L ha 8 1000 0 mpl (by omega) (by omega) (by omega), cl_nI (by omega)]
            rfl
          refine ⟨.int (nI n), _, _, kk_shelf l D B adK adV cC cF cI cZ cM cS xa ad (tx, told, draft, now, guess, past, stored, ist, np, un, sh) (nI a) (nI f) (nI n) _ a ha e1, k6_shelf l D B adK adV cC cF cI cZ cM cS ya am (mst, mwy, mmk, mwt, mvl, mof, mw, mf, mun, mik, mtx, mln, mfi, mbe, mrs, mrw, mcl, mdo, mnu, mwd, msz, mso, mpl) (nI a) (nI f) (nI n) _ e2, h1, h2, ?_, h4⟩
          refine RSh_upd h3 (Or.inr ⟨rfl, n, f, by omega, hf, rfl, ?_, rfl, ?_, fun j hj => ?_⟩) (fun i hi => upd_n hi) (fun i hi => upd_n hi) (fun i hi hne j hj => ?_)
          · exact upd_s
          · exact upd_s
          · refine Or.inl ⟨?_, ?_⟩
            · show (if j < 8 then (-15 : Int32) else _) = _
              rw [if_pos (by omega)]
            · show (if 8 * a + 0 ≤ 8 * a + j ∧ 8 * a + j < 8 * a + 8 then (-1 : Int32) else _) = _
              rw [if_pos (by omega)]
          · show (if 8 * a + 0 ≤ 8 * i + j ∧ 8 * i + j < 8 * a + 8 then (-1 : Int32) else _) = _
            rw [if_neg (by omega)]
        · exact stay (-12) a ha (by unfold f_X5_shelf; rw [isSf_ok ha]; simp only [Option.bind_some, if_neg o10]; rw [if_neg s1, if_neg s2, if_pos c1, if_neg c2]) (by unfold f_X6_shelf; rw [third_ok ha, third_ok hf]; simp only [Option.bind_some, if_neg o10]; rw [if_pos c1, if_neg c2])
      · exact stay (-3) a ha (by unfold f_X5_shelf; rw [isSf_ok ha]; simp only [Option.bind_some, if_neg o10]; rw [if_neg s1, if_neg s2, if_neg c1]) (by unfold f_X6_shelf; rw [third_ok ha, third_ok hf]; simp only [Option.bind_some, if_neg o10]; rw [if_neg c1])
theorem do_drop {l : Launch} {D : va_G} {B : Nat} {adK adV : Nat → Nat} {cC cF cI cZ cM cS : ClassId} {xa : Nat} {ad : Nat → Nat} {ya : Nat} {am : Nat → Nat} {σ : XS} {τ : RS} (hR : RR σ τ) (i : Int32) : B_drop l D B adK adV cC cF cI cZ cM cS xa ad ya am i σ τ := by
  obtain ⟨tx, told, draft, now, guess, past, stored, ist, np, un, sh⟩ := σ
  obtain ⟨mst, mwy, mmk, mwt, mvl, mof, mw, mf, mun, mik, mtx, mln, mfi, mbe, mrs, mrw, mcl, mdo, mnu, mwd, msz, mso, mpl⟩ := τ
  obtain ⟨h1, h2, h3, h4⟩ := hR
  simp only at h1 h2 h3 h4
  have stay : ∀ (r : Int32) (j : Nat) (hj : j < 3) (msz' : Nat → Int32), (∀ q, q < 3 → msz' q = msz q) → f_X5_drop (fun j => ([(ad 109), (ad 111), (ad 113)] : List Nat)[j]?) (ad (109 + 2 * j)) (sh j).1 (sh j).2.1 (sh j).2.2.1 (sh j).2.2.2 i = some (r, (sh j).2.2.2, (sh j).1, (sh j).2.1, (sh j).2.2.1) → f_X6_drop msz i = some (r, msz') → B_drop l D B adK adV cC cF cI cZ cM cS xa ad ya am i (tx, told, draft, now, guess, past, stored, ist, np, un, sh) (mst, mwy, mmk, mwt, mvl, mof, mw, mf, mun, mik, mtx, mln, mfi, mbe, mrs, mrw, mcl, mdo, mnu, mwd, msz, mso, mpl) := by
    intro r j hj msz' hz e1 e2
    refine ⟨.int r, _, _, kk_drop l D B adK adV cC cF cI cZ cM cS xa ad (tx, told, draft, now, guess, past, stored, ist, np, un, sh) i _ j hj e1, k6_drop l D B adK adV cC cF cI cZ cM cS ya am (mst, mwy, mmk, mwt, mvl, mof, mw, mf, mun, mik, mtx, mln, mfi, mbe, mrs, mrw, mcl, mdo, mnu, mwd, msz, mso, mpl) i (r, msz') e2, h1, h2, ?_, h4⟩
    show RSh (va_up sh j (sh j)) msz' mso mpl
    rw [up_self]
    intro q hq
    rw [hz q hq]
    exact h3 q hq
  rcases ix_cases i 3 (by omega) with hi | hi | ⟨a, ha, rfl⟩
  · exact stay (-2) 0 (by omega) msz (fun _ _ => rfl) (by unfold f_X5_drop; rw [isSf_lo hi]; rfl) (by unfold f_X6_drop; rw [third_lo hi]; rfl)
  · exact stay (-2) 0 (by omega) msz (fun _ _ => rfl) (by unfold f_X5_drop; rw [isSf_hi hi]; rfl) (by unfold f_X6_drop; rw [third_hi hi]; rfl)
  · rcases h3 a ha with ⟨m1, m2, m3⟩ | ⟨m1, n, f, hn, hf, m2, m3, m4, m5, m6⟩
    · refine stay (-11) a ha (upd msz a (-1)) (fun q hq => ?_) ?_ ?_
      · by_cases hqa : q = a
        · subst hqa; rw [upd_s]; exact m3.symm
        · exact upd_n hqa
      · unfold f_X5_drop
        rw [isSf_ok ha]
        simp only [Option.bind_some, if_neg o10]
        rw [gd_iok ha (by omega), gd_sh ha, if_neg (by rw [m1]; exact o10)]
      · unfold f_X6_drop
        rw [third_ok ha]
        simp only [Option.bind_some, if_neg o10]
        rw [gd_iok ha (by omega), gd_iok ha (by omega), if_neg (show ¬ 0 ≤ msz (nI a).toNatClampNeg by rw [cl_nI (by omega), m3]; decide), cl_nI (by omega)]
    · have e1 : f_X5_drop (fun j => ([(ad 109), (ad 111), (ad 113)] : List Nat)[j]?) (ad (109 + 2 * a)) (sh a).1 (sh a).2.1 (sh a).2.2.1 (sh a).2.2.2 (nI a) = some (nI n, (fun j => if j < 8 then -15 else (sh a).2.2.2 j), 1, 0, 0) := by
        unfold f_X5_drop f_X3_remove
        rw [isSf_ok ha]
        simp only [Option.bind_some, if_neg o10]
        rw [gd_iok ha (by omega), gd_sh ha, if_pos m1, gd_iok ha (by omega), gd_sh ha, gd_iok ha (by omega), gd_sh ha, p_makeNew, m4]
        rfl
      have e2 : f_X6_drop msz (nI a) = some (nI n, upd msz a (-1)) := by
        unfold f_X6_drop
        rw [third_ok ha]
        simp only [Option.bind_some, if_neg o10]
        rw [gd_iok ha (by omega), gd_iok ha (by omega), if_pos (show 0 ≤ msz (nI a).toNatClampNeg by rw [cl_nI (by omega), m5]; show nI 0 ≤ nI n; rw [le_nI (by omega) (by omega)]; omega), cl_nI (by omega), m5]
      refine ⟨.int (nI n), _, _, kk_drop l D B adK adV cC cF cI cZ cM cS xa ad (tx, told, draft, now, guess, past, stored, ist, np, un, sh) (nI a) _ a ha e1, k6_drop l D B adK adV cC cF cI cZ cM cS ya am (mst, mwy, mmk, mwt, mvl, mof, mw, mf, mun, mik, mtx, mln, mfi, mbe, mrs, mrw, mcl, mdo, mnu, mwd, msz, mso, mpl) (nI a) (nI n, upd msz a (-1)) e2, h1, h2, ?_, h4⟩
      exact RSh_upd h3 (Or.inl ⟨rfl, rfl, upd_s⟩) (fun i hi => upd_n hi) (fun i hi => rfl) (fun i hi hne j hj => rfl)
