/-! ===== hand, count ===== -/
def hcore (x y : ShT) (k v : Int32) : Option (Int32 × (Nat → Int32)) := if x.1 = 0 then (if y.1 = 0 then ((f_X3_hasPlace x.2.2.1 k).bind fun r13 => (if r13 = 0 then (some ((-13), y.2.2.2)) else ((f_X3_hasPlace y.2.2.1 v).bind fun r16 => (if r16 = 0 then (some ((-13), y.2.2.2)) else (gd (iok k 8) (if 0 ≤ (x.2.2.2 k.toNatClampNeg) then ((f_X3_takes y.2.1 (x.2.2.2 k.toNatClampNeg)).bind fun r21 => (if r21 = 0 then (some ((-14), y.2.2.2)) else (gd (iok v 8) (some (1, (upd y.2.2.2 v.toNatClampNeg (x.2.2.2 k.toNatClampNeg))))))) else (some ((-15), y.2.2.2)))))))) else (some ((-11), y.2.2.2))) else (some ((-11), y.2.2.2))
theorem hand_d_core {ad : Nat → Nat} {sh : Nat → ShT} {a b : Nat} {k v : Int32} (ha : a < 3) (hb : b < 3) : f_X5_hand_d (fun j => ([(ad 109), (ad 111), (ad 113)] : List Nat)[j]?) (ad (109 + 2 * a)) (sh a).1 (sh a).2.2.1 (sh a).2.2.2 (ad (109 + 2 * b)) (sh b).1 (sh b).2.1 (sh b).2.2.1 (sh b).2.2.2 (nI a) k (nI b) v = hcore (sh a) (sh b) k v := by
  unfold f_X5_hand_d
  rw [isSf_ok ha, isSf_ok hb]
  simp only [Option.bind_some, if_neg o10]
  rw [gd_iok ha (by omega), gd_sh ha, gd_iok hb (by omega), gd_sh hb]
  rfl
theorem hand_s_core {ad : Nat → Nat} {sh : Nat → ShT} {q : Nat} {k v : Int32} (hq : q < 3) : f_X5_hand_s (fun j => ([(ad 109), (ad 111), (ad 113)] : List Nat)[j]?) (ad (109 + 2 * q)) (sh q).1 (sh q).2.1 (sh q).2.2.1 (sh q).2.2.2 (nI q) k (nI q) v = hcore (sh q) (sh q) k v := by
  unfold f_X5_hand_s hcore
  rw [isSf_ok hq]
  simp only [Option.bind_some, if_neg o10]
  rw [gd_iok hq (by omega), gd_sh hq, gd_iok hq (by omega), gd_sh hq]
  by_cases h : (sh q).1 = 0
  · simp only [if_pos h]
  · simp only [if_neg h]
theorem s_hand {x y : ShT} {msz mso mpl : Nat → Int32} {a b : Nat} (ha : a < 3) (hb : b < 3) (hx : RSf x (msz a) (mso a) (fun j => mpl (8 * a + j))) (hy : RSf y (msz b) (mso b) (fun j => mpl (8 * b + j))) (k v : Int32) :
    (∃ r : Int32, hcore x y k v = some (r, y.2.2.2) ∧ f_X6_hand msz mso mpl (nI a) k (nI b) v = some (r, mpl)) ∨
    (∃ e w, e < 8 ∧ w < 2000 ∧ hcore x y k v = some (1, upd y.2.2.2 e (nI w)) ∧ f_X6_hand msz mso mpl (nI a) k (nI b) v = some (1, upd mpl (8 * b + e) (nI w))) := by
  unfold hcore f_X6_hand
  rw [third_ok ha, third_ok hb]
  simp only [Option.bind_some, if_neg o10]
  rw [gd_iok ha (by omega), gd_iok hb (by omega)]
  rcases hx with ⟨m1, m2, m3⟩ | ⟨m1, n, f, hn, hf, m2, m3, m4, m5, m6⟩
  · left
    rw [if_neg (by rw [m1]; exact o10), if_pos (show msz (nI a).toNatClampNeg < 0 by rw [cl_nI (by omega), m3]; decide)]
    exact ⟨-11, rfl, rfl⟩
  · rw [if_pos m1, if_neg (show ¬ msz (nI a).toNatClampNeg < 0 from nlt_le.mpr (ag_pos ha hn m5))]
    rcases hy with ⟨p1, p2, p3⟩ | ⟨p1, n', f', hn', hf', p2, p3, p4, p5, p6⟩
    · left
      rw [if_neg (by rw [p1]; exact o10), if_neg (show ¬ 0 ≤ msz (nI b).toNatClampNeg by rw [cl_nI (by omega), p3]; decide)]
      exact ⟨-11, rfl, rfl⟩
    · rw [if_pos p1, if_pos (ag_pos hb hn' p5), m4, p4]
      rcases ix_cases k n (by omega) with hk | hk | ⟨c, hc, rfl⟩
      · left
        rw [hp_lo hk, ag_lo ha hn m5 hk]
        exact ⟨-13, rfl, rfl⟩
      · left
        rw [hp_hi hn hk, ag_hi ha hn m5 hk]
        exact ⟨-13, rfl, rfl⟩
      · rw [hp_ok hn hc, ag_ok ha hn m5 hc]
        simp only [Option.bind_some, if_neg o10, if_true]
        rcases ix_cases v n' (by omega) with hk | hk | ⟨e, he, rfl⟩
        · left
          rw [hp_lo hk, ag_lo hb hn' p5 hk]
          exact ⟨-13, rfl, rfl⟩
        · left
          rw [hp_hi hn' hk, ag_hi hb hn' p5 hk]
          exact ⟨-13, rfl, rfl⟩
        · rw [hp_ok hn' he, ag_ok hb hn' p5 he]
          simp only [Option.bind_some, if_neg o10, if_true]
          simp (disch := omega) only [l8, mu_nI, ad_nI, cl_nI, gd_iok]
          rcases m6 c hc with ⟨g1, g2⟩ | ⟨w, hw, g1, g2⟩
          · left
            simp only at g2
            rw [g1, g2]
            exact ⟨-15, rfl, rfl⟩
          · simp only at g2
            rw [g1, g2, if_neg (m1_ne w (by omega)), if_pos (show (0 : Int32) ≤ nI w by show nI 0 ≤ nI w; rw [le_nI (by omega) (by omega)]; omega), p2, p_takes hf' hw]
            rw [show f_X6_isOther mso (nI b) 2 = f_X6_isOther mso (nI b) (nI 2) from rfl, show f_X6_isOther mso (nI b) 1 = f_X6_isOther mso (nI b) (nI 1) from rfl, p6_isOther hb hf' (by omega) p3, p6_isOther hb hf' (by omega) p3]
            by_cases hw1 : 1000 ≤ w
            · have hw2 : ¬ w < 1000 := by omega
              rw [if_pos (show (1000 : Int32) ≤ nI w by show nI 1000 ≤ nI w; rw [le_nI (by omega) (by omega)]; exact hw1), if_neg hw2]
              cases hd : decide (f' = 0 ∨ f' = 2) with
              | false => exact Or.inl ⟨-14, rfl, rfl⟩
              | true => exact Or.inr ⟨e, w, by omega, hw, rfl, rfl⟩
            · have hw2 : w < 1000 := by omega
              rw [if_neg (show ¬ (1000 : Int32) ≤ nI w by show ¬ nI 1000 ≤ nI w; rw [le_nI (by omega) (by omega)]; exact hw1), if_pos hw2]
              cases hd : decide (f' = 0 ∨ f' = 1) with
              | false => exact Or.inl ⟨-14, rfl, rfl⟩
              | true => exact Or.inr ⟨e, w, by omega, hw, rfl, rfl⟩
theorem do_hand {l : Launch} {D : va_G} {B : Nat} {adK adV : Nat → Nat} {cC cF cI cZ cM cS : ClassId} {xa : Nat} {ad : Nat → Nat} {ya : Nat} {am : Nat → Nat} {σ : XS} {τ : RS} (hR : RR σ τ) (i k j v : Int32) : B_hand l D B adK adV cC cF cI cZ cM cS xa ad ya am i k j v σ τ := by
  obtain ⟨tx, told, draft, now, guess, past, stored, ist, np, un, sh⟩ := σ
  obtain ⟨mst, mwy, mmk, mwt, mvl, mof, mw, mf, mun, mik, mtx, mln, mfi, mbe, mrs, mrw, mcl, mdo, mnu, mwd, msz, mso, mpl⟩ := τ
  obtain ⟨h1, h2, h3, h4⟩ := hR
  simp only at h1 h2 h3 h4
  have stay : ∀ (r : Int32) (q : Nat) (hq : q < 3), f_X5_hand_s (fun j => ([(ad 109), (ad 111), (ad 113)] : List Nat)[j]?) (ad (109 + 2 * q)) (sh q).1 (sh q).2.1 (sh q).2.2.1 (sh q).2.2.2 i k j v = some (r, (sh q).2.2.2) → f_X6_hand msz mso mpl i k j v = some (r, mpl) → B_hand l D B adK adV cC cF cI cZ cM cS xa ad ya am i k j v (tx, told, draft, now, guess, past, stored, ist, np, un, sh) (mst, mwy, mmk, mwt, mvl, mof, mw, mf, mun, mik, mtx, mln, mfi, mbe, mrs, mrw, mcl, mdo, mnu, mwd, msz, mso, mpl) := by
    intro r q hq e1 e2
    refine ⟨.int r, _, _, kk_hand_s l D B adK adV cC cF cI cZ cM cS xa ad (tx, told, draft, now, guess, past, stored, ist, np, un, sh) i k j v _ q hq e1, k6_hand l D B adK adV cC cF cI cZ cM cS ya am (mst, mwy, mmk, mwt, mvl, mof, mw, mf, mun, mik, mtx, mln, mfi, mbe, mrs, mrw, mcl, mdo, mnu, mwd, msz, mso, mpl) i k j v (r, mpl) e2, h1, h2, ?_, h4⟩
    show RSh (va_up sh q (sh q)) msz mso mpl
    rw [up_self]
    exact h3
  rcases ix_cases i 3 (by omega) with hi | hi | ⟨a, ha, rfl⟩
  · exact stay (-2) 0 (by omega) (by unfold f_X5_hand_s; rw [isSf_lo hi]; rfl) (by unfold f_X6_hand; rw [third_lo hi]; rfl)
  · exact stay (-2) 0 (by omega) (by unfold f_X5_hand_s; rw [isSf_hi hi]; rfl) (by unfold f_X6_hand; rw [third_hi hi]; rfl)
  · rcases ix_cases j 3 (by omega) with hj | hj | ⟨b, hb, rfl⟩
    · exact stay (-2) a ha (by unfold f_X5_hand_s; rw [isSf_ok ha, isSf_lo hj]; rfl) (by unfold f_X6_hand; rw [third_ok ha, third_lo hj]; rfl)
    · exact stay (-2) a ha (by unfold f_X5_hand_s; rw [isSf_ok ha, isSf_hi hj]; rfl) (by unfold f_X6_hand; rw [third_ok ha, third_hi hj]; rfl)
    · have new : ∀ e w, e < 8 → w < 2000 → RSh (va_up sh b ((sh b).1, (sh b).2.1, (sh b).2.2.1, upd (sh b).2.2.2 e (nI w))) msz mso (upd mpl (8 * b + e) (nI w)) := by
        intro e w he hw
        refine RSh_upd h3 ?_ (fun i hi => rfl) (fun i hi => rfl) (fun i hi hne j hj => upd_n (by omega))
        rcases h3 b hb with ⟨m1, m2, m3⟩ | ⟨m1, n', f, hn', hf, m2, m3, m4, m5, m6⟩
        · exact Or.inl ⟨m1, m2, m3⟩
        · refine Or.inr ⟨m1, n', f, hn', hf, m2, m3, m4, m5, fun j hj => ?_⟩
          show RMk (upd (sh b).2.2.2 e (nI w) j) (upd mpl (8 * b + e) (nI w) (8 * b + j))
          by_cases hjc : j = e
          · subst hjc; rw [upd_s, upd_s]; exact Or.inr ⟨w, hw, rfl, rfl⟩
          · rw [upd_n hjc, upd_n (by omega)]; exact m6 j hj
      rcases s_hand ha hb (h3 a ha) (h3 b hb) k v with ⟨r, g1, g2⟩ | ⟨e, w, he, hw, g1, g2⟩
      · by_cases hab : a = b
        · subst hab
          exact stay r a ha ((hand_s_core ha).trans g1) g2
        · refine ⟨.int r, _, _, kk_hand_d l D B adK adV cC cF cI cZ cM cS xa ad (tx, told, draft, now, guess, past, stored, ist, np, un, sh) (nI a) k (nI b) v _ a b ha hb hab ((hand_d_core ha hb).trans g1), k6_hand l D B adK adV cC cF cI cZ cM cS ya am (mst, mwy, mmk, mwt, mvl, mof, mw, mf, mun, mik, mtx, mln, mfi, mbe, mrs, mrw, mcl, mdo, mnu, mwd, msz, mso, mpl) (nI a) k (nI b) v _ g2, h1, h2, ?_, h4⟩
          show RSh (va_up sh b (sh b)) msz mso mpl
          rw [up_self]
          exact h3
      · by_cases hab : a = b
        · subst hab
          exact ⟨.int 1, _, _, kk_hand_s l D B adK adV cC cF cI cZ cM cS xa ad (tx, told, draft, now, guess, past, stored, ist, np, un, sh) (nI a) k (nI a) v _ a ha ((hand_s_core ha).trans g1), k6_hand l D B adK adV cC cF cI cZ cM cS ya am (mst, mwy, mmk, mwt, mvl, mof, mw, mf, mun, mik, mtx, mln, mfi, mbe, mrs, mrw, mcl, mdo, mnu, mwd, msz, mso, mpl) (nI a) k (nI a) v _ g2, h1, h2, new e w he hw, h4⟩
        · exact ⟨.int 1, _, _, kk_hand_d l D B adK adV cC cF cI cZ cM cS xa ad (tx, told, draft, now, guess, past, stored, ist, np, un, sh) (nI a) k (nI b) v _ a b ha hb hab ((hand_d_core ha hb).trans g1), k6_hand l D B adK adV cC cF cI cZ cM cS ya am (mst, mwy, mmk, mwt, mvl, mof, mw, mf, mun, mik, mtx, mln, mfi, mbe, mrs, mrw, mcl, mdo, mnu, mwd, msz, mso, mpl) (nI a) k (nI b) v _ g2, h1, h2, new e w he hw, h4⟩
def tc (mk : Nat → Int32) : Nat → Nat → Nat
  | 0, _ => 0
  | k + 1, x => (if mk x < 0 then 0 else 1) + tc mk k (x + 1)
theorem p_things_L {n : Nat} {mk : Nat → Int32} (hn : n ≤ 8) : ∀ (k m x s : Nat), k = n - x → x ≤ n → k < m → f_X3_things_L4 (nI n) mk m (nI x) (nI s) = some (nI n, nI (s + tc mk k x)) := by
  intro k
  induction k with
  | zero =>
    intro m x s hk hx hm
    obtain ⟨m, rfl⟩ : ∃ q, m = q + 1 := ⟨m - 1, by omega⟩
    have : x = n := by omega
    subst this
    unfold f_X3_things_L4
    rw [if_pos (Int32.le_refl _)]
    rfl
  | succ k ih =>
    intro m x s hk hx hm
    obtain ⟨m, rfl⟩ : ∃ q, m = q + 1 := ⟨m - 1, by omega⟩
    unfold f_X3_things_L4 tc
    rw [if_neg (show ¬ nI n ≤ nI x by rw [le_nI (by omega) (by omega)]; omega), gd_iok (by omega) (by omega), ad1, ad0, ad1, ih m (x + 1) s (by omega) (by omega) (by omega), ih m (x + 1) (s + 1) (by omega) (by omega) (by omega)]
    by_cases h : mk x < 0
    · rw [if_pos (show mk (nI x).toNatClampNeg < 0 by rw [cl_nI (by omega)]; exact h), if_pos h, Nat.zero_add]
    · rw [if_neg (show ¬ mk (nI x).toNatClampNeg < 0 by rw [cl_nI (by omega)]; exact h), if_neg h, Nat.add_assoc]
theorem p6_things_L {n i : Nat} {mk msz mpl : Nat → Int32} (hi : i < 3) (hn : n ≤ 8) (hz : msz i = nI n) (hp : ∀ j, j < n → RMk (mk j) (mpl (8 * i + j))) : ∀ (k m x s : Nat), k = n - x → x ≤ n → k < m → f_X6_things_L11 msz mpl m (nI x) (nI s) (nI i) = some (nI n, nI i, nI (s + tc mk k x)) := by
  intro k
  induction k with
  | zero =>
    intro m x s hk hx hm
    obtain ⟨m, rfl⟩ : ∃ q, m = q + 1 := ⟨m - 1, by omega⟩
    have : x = n := by omega
    subst this
    unfold f_X6_things_L11
    rw [gd_iok hi (by omega), if_pos (show msz (nI i).toNatClampNeg ≤ nI x by rw [cl_nI (by omega), hz]; exact Int32.le_refl _)]
    rfl
  | succ k ih =>
    intro m x s hk hx hm
    obtain ⟨m, rfl⟩ : ∃ q, m = q + 1 := ⟨m - 1, by omega⟩
    unfold f_X6_things_L11 tc
    rw [gd_iok hi (by omega), if_neg (show ¬ msz (nI i).toNatClampNeg ≤ nI x by rw [cl_nI (by omega), hz, le_nI (by omega) (by omega)]; omega)]
    simp (disch := omega) only [l8, mu_nI, ad_nI, ad1, ad0, cl_nI, gd_iok]
    rw [ih m (x + 1) s (by omega) (by omega) (by omega), ih m (x + 1) (s + 1) (by omega) (by omega) (by omega)]
    rcases hp x (by omega) with ⟨g1, g2⟩ | ⟨v, hv, g1, g2⟩
    · rw [if_pos g2, if_pos (show mk x < 0 by rw [g1]; decide), Nat.zero_add]
    · rw [if_neg (show ¬ mpl (8 * i + x) = -1 by rw [g2]; exact m1_ne v (by omega)), if_neg (show ¬ mk x < 0 by rw [g1]; exact nneg (by omega)), Nat.add_assoc]
theorem s_things1 {x : ShT} {msz mso mpl : Nat → Int32} {i : Nat} (hi : i < 3) (h : RSf x (msz i) (mso i) (fun j => mpl (8 * i + j))) : ∃ t : Nat, f_X3_things x.2.2.1 x.2.2.2 = some (nI t) ∧ ∀ s : Nat, ∃ q, f_X6_things_L11 msz mpl 1000 0 (nI s) (nI i) = some (q, nI i, nI (s + t)) := by
  unfold f_X3_things
  rcases h with ⟨m1, m2, m3⟩ | ⟨m1, n, f, hn, hf, m2, m3, m4, m5, m6⟩
  · refine ⟨0, ?_, fun s => ⟨0, ?_⟩⟩
    · rw [m2]
      have := p_things_L (n := 0) (mk := x.2.2.2) (by omega) 0 1000 0 0 rfl (by omega) (by omega)
      rw [show f_X3_things_L4 (nI 0) x.2.2.2 1000 0 0 = f_X3_things_L4 (nI 0) x.2.2.2 1000 (nI 0) (nI 0) from rfl, this]
      rfl
    · unfold f_X6_things_L11
      rw [gd_iok hi (by omega), if_pos (show msz (nI i).toNatClampNeg ≤ 0 by rw [cl_nI (by omega), m3]; decide)]
      rfl
  · refine ⟨tc x.2.2.2 n 0, ?_, fun s => ⟨nI n, ?_⟩⟩
    · rw [m4]
      have := p_things_L (n := n) (mk := x.2.2.2) hn n 1000 0 0 (by omega) (by omega) (by omega)
      rw [show f_X3_things_L4 (nI n) x.2.2.2 1000 0 0 = f_X3_things_L4 (nI n) x.2.2.2 1000 (nI 0) (nI 0) from rfl, this]
      simp only [Option.bind_some, Nat.zero_add]
    · exact p6_things_L hi hn m5 m6 n 1000 0 s (by omega) (by omega) (by omega)
theorem L4_step {msz mpl : Nat → Int32} {i s t n : Nat} (hi : i < 3) {q : Int32} (h : f_X6_things_L11 msz mpl 1000 0 (nI s) (nI i) = some (q, nI i, nI (s + t))) : f_X6_things_L4 msz mpl (n + 1) (nI i) (nI s) = f_X6_things_L4 msz mpl n (nI (i + 1)) (nI (s + t)) := by
  rw [show f_X6_things_L4 msz mpl (n + 1) (nI i) (nI s) = (if 3 ≤ nI i then (some (nI i, nI s)) else ((f_X6_things_L11 msz mpl 1000 0 (nI s) (nI i)).bind fun (q6, q7, q8) => (f_X6_things_L4 msz mpl n (q7 + 1) q8))) from rfl]
  rw [if_neg (show ¬ (3 : Int32) ≤ nI i by show ¬ nI 3 ≤ nI i; rw [le_nI (by omega) (by omega)]; omega), h]
  simp only [Option.bind_some, ad1]
theorem s_things {sh : Nat → ShT} {msz mso mpl : Nat → Int32} (h : RSh sh msz mso mpl) : ∃ r, f_X5_things (sh 0).2.2.1 (sh 0).2.2.2 (sh 1).2.2.1 (sh 1).2.2.2 (sh 2).2.2.1 (sh 2).2.2.2 = some r ∧ f_X6_things msz mpl = some r := by
  obtain ⟨t0, a0, b0⟩ := s_things1 (by omega) (h 0 (by omega))
  obtain ⟨t1, a1, b1⟩ := s_things1 (by omega) (h 1 (by omega))
  obtain ⟨t2, a2, b2⟩ := s_things1 (by omega) (h 2 (by omega))
  obtain ⟨q0, c0⟩ := b0 0
  obtain ⟨q1, c1⟩ := b1 (0 + t0)
  obtain ⟨q2, c2⟩ := b2 (0 + t0 + t1)
  refine ⟨nI (0 + t0 + t1 + t2), ?_, ?_⟩
  · unfold f_X5_things
    rw [a0, a1, a2]
    simp only [Option.bind_some, show (0 : Int32) = nI 0 from rfl, ad_nI]
  · unfold f_X6_things
    rw [show f_X6_things_L4 msz mpl 1000 0 0 = f_X6_things_L4 msz mpl (999 + 1) (nI 0) (nI 0) from rfl, L4_step (by omega) c0, show (999 : Nat) = 998 + 1 from rfl, L4_step (by omega) c1, show (998 : Nat) = 997 + 1 from rfl, L4_step (by omega) c2]
    rfl
theorem do_count {l : Launch} {D : va_G} {B : Nat} {adK adV : Nat → Nat} {cC cF cI cZ cM cS : ClassId} {xa : Nat} {ad : Nat → Nat} {ya : Nat} {am : Nat → Nat} {σ : XS} {τ : RS} (hR : RR σ τ) (k : Int32) : B_count l D B adK adV cC cF cI cZ cM cS xa ad ya am k σ τ := by
  have hR0 := hR
  obtain ⟨tx, told, draft, now, guess, past, stored, ist, np, un, sh⟩ := σ
  obtain ⟨mst, mwy, mmk, mwt, mvl, mof, mw, mf, mun, mik, mtx, mln, mfi, mbe, mrs, mrw, mcl, mdo, mnu, mwd, msz, mso, mpl⟩ := τ
  obtain ⟨h1, h2, h3, h4⟩ := hR
  simp only at h1 h2 h3 h4
  obtain ⟨n, hn, x1, x2, x3⟩ := h1
  obtain ⟨S, W, ⟨f1, f2, f3, f4, ⟨mk, hmk, f5, f6⟩, ⟨wt, hwt, f7, f8⟩, -⟩, u, p, m, hu, hp, eu, emu, ep, en, hok, hmr, hpa, hkp⟩ := h4
  obtain ⟨r8, t1, t2⟩ := s_things h3
  have key : ∃ r, f_X5_count un tx.1 told.1 told.2.1 told.2.2.1 told.2.2.2.1 now.2.2.2 now.2.2.1 (sh 0).2.2.1 (sh 0).2.2.2 (sh 1).2.2.1 (sh 1).2.2.2 (sh 2).2.2.1 (sh 2).2.2.2 k = some r ∧ f_X6_count mst mwy mmk mwt mun mln mw msz mpl k = some r := by
    have g13 : mw 13 = now.2.2.2 := by rw [en]; exact hmr.2.2.2
    have g10 : mw 10 = now.2.2.1 0 := by rw [en]; exact hmr.2.2.1 0 (by omega)
    have g11 : mw 11 = now.2.2.1 1 := by rw [en]; exact hmr.2.2.1 1 (by omega)
    have g12 : mw 12 = now.2.2.1 2 := by rw [en]; exact hmr.2.2.1 2 (by omega)
    unfold f_X5_count f_X6_count
    rw [t1, t2]
    by_cases c0 : k = 0
    · rw [if_pos c0, if_pos c0]; exact ⟨_, rfl, by rw [f1, f2]⟩
    rw [if_neg c0, if_neg c0]
    by_cases c1 : k = 1
    · rw [if_pos c1, if_pos c1]; exact ⟨_, rfl, by rw [f3, f4]⟩
    rw [if_neg c1, if_neg c1]
    by_cases c2 : k = 2
    · rw [if_pos c2, if_pos c2]; exact ⟨_, rfl, by rw [g13]⟩
    rw [if_neg c2, if_neg c2]
    by_cases c3 : k = 3
    · rw [if_pos c3, if_pos c3]; subst c3; exact ⟨_, rfl, (gd_t (show iok ((10 : Int32) + 3 - 3) 168 from iok_nI (k := 10) (by omega) (by omega))).trans (congrArg (fun z => some (z + 100)) g10)⟩
    rw [if_neg c3, if_neg c3]
    by_cases c4 : k = 4
    · rw [if_pos c4, if_pos c4]; subst c4; exact ⟨_, rfl, (gd_t (show iok ((10 : Int32) + 4 - 3) 168 from iok_nI (k := 11) (by omega) (by omega))).trans (congrArg (fun z => some (z + 100)) g11)⟩
    rw [if_neg c4, if_neg c4]
    by_cases c5 : k = 5
    · rw [if_pos c5, if_pos c5]; subst c5; exact ⟨_, rfl, (gd_t (show iok ((10 : Int32) + 5 - 3) 168 from iok_nI (k := 12) (by omega) (by omega))).trans (congrArg (fun z => some (z + 100)) g12)⟩
    rw [if_neg c5, if_neg c5]
    by_cases c6 : k = 6
    · rw [if_pos c6, if_pos c6]; exact ⟨_, rfl, by rw [f5, f6]⟩
    rw [if_neg c6, if_neg c6]
    by_cases c7 : k = 7
    · rw [if_pos c7, if_pos c7]; exact ⟨_, rfl, by rw [f7, f8]⟩
    rw [if_neg c7, if_neg c7]
    by_cases c8 : k = 8
    · rw [if_pos c8, if_pos c8]; exact ⟨_, rfl, rfl⟩
    rw [if_neg c8, if_neg c8]
    by_cases c9 : k = 9
    · rw [if_pos c9, if_pos c9]; exact ⟨_, rfl, by rw [eu, emu]⟩
    rw [if_neg c9, if_neg c9]
    by_cases c10 : k = 10
    · rw [if_pos c10, if_pos c10]; exact ⟨_, rfl, by rw [x1, x2]⟩
    rw [if_neg c10, if_neg c10]
    exact ⟨_, rfl, rfl⟩
  obtain ⟨r, e1, e2⟩ := key
  exact ⟨.int r, _, _, k_count l D B adK adV cC cF cI cZ cM cS xa ad (tx, told, draft, now, guess, past, stored, ist, np, un, sh) k r e1, k6_count l D B adK adV cC cF cI cZ cM cS ya am (mst, mwy, mmk, mwt, mvl, mof, mw, mf, mun, mik, mtx, mln, mfi, mbe, mrs, mrw, mcl, mdo, mnu, mwd, msz, mso, mpl) k r e2, hR0⟩
