/-! ===== limb ===== -/
def Mg (K : Nat) (a : UInt32) : Prop := a.toNat % 2 ^ 31 < K * 2 ^ 23
def Qv (v : Int32) : UInt32 := FP.fdiv (FP.i2f v) 1082130432
theorem q_tab : ∀ n, n < 100 → (Qv (nI n)).toNat % 2 ^ 31 < 132 * 2 ^ 23 ∧ (Qv (-(nI n))).toNat % 2 ^ 31 < 132 * 2 ^ 23 := by decide +kernel
theorem VOK_cases {v : Int32} (h : VOK v) : ∃ n, n < 100 ∧ (v = nI n ∨ v = -(nI n)) := by
  obtain ⟨h1, h2⟩ := h
  by_cases h0 : 0 ≤ v.toInt
  · refine ⟨v.toInt.toNat, by omega, Or.inl (Int32.toInt_inj.mp ?_)⟩
    rw [nI_ti (by omega)]
    omega
  · refine ⟨(-v.toInt).toNat, by omega, Or.inr (Int32.toInt_inj.mp ?_)⟩
    rw [Int32.toInt_neg, nI_ti (by omega)]
    rw [Int.bmod_eq_of_le (by omega) (by omega)]
    omega
theorem Q_mg {v : Int32} (h : VOK v) : Mg 132 (Qv v) := by
  obtain ⟨n, hn, rfl | rfl⟩ := VOK_cases h
  · exact (q_tab n hn).1
  · exact (q_tab n hn).2
theorem Sh_mg {a : UInt32} (h : Sh a) : Mg 128 a := by unfold Sh at h; unfold Mg; omega
def lt4 (vl : Nat → Int32) (c : Nat) (sh : Nat → UInt32) : Nat → UInt32 := fun x => FP.fmul (Qv (vl (4 * x + c))) (sh x)
theorem lt4_mg {v : Int32} {s : UInt32} (h : VOK v) (hs : Sh s) : Mg 134 (FP.fmul (Qv v) s) := by
  have := FP.Core.fmul_mag (a := Qv v) (b := s) (Ka := 132) (Kb := 128) (Q_mg h) (Sh_mg hs) (by omega) (by omega)
  exact this
theorem Mg_add {a b : UInt32} {K : Nat} (ha : Mg K a) (hb : Mg K b) (hK : K ≤ 253) : Mg (K + 2) (FP.fadd a b) ∧ fok (FP.fadd a b) := by
  have := FP.Core.fadd_mag (a := a) (b := b) (K := K) ha hb (by omega)
  exact ⟨this, fok_mg this (by omega)⟩
theorem Mg.up {a : UInt32} {K K' : Nat} (h : Mg K a) (hK : K ≤ K') : Mg K' a := Nat.lt_of_lt_of_le h (Nat.mul_le_mul_right _ hK)
theorem p_limb_L {vl : Nat → Int32} {sh : Nat → UInt32} {S c : Nat} (hS : S ≤ 6) (hc : c < 4) (hv : ∀ j, j < 4 * S → VOK (vl j)) (hsh : ∀ s, s < 6 → Sh (sh s)) : ∀ (k n x : Nat) (s : UInt32), k = S - x → x ≤ S → k < n → Mg (134 + 2 * x) s → f_X1_limbOf_L5 (nI S) (nI c) vl sh n (nI x) s = some (nI S, fs (lt4 vl c sh) k x s) ∧ Mg (134 + 2 * S) (fs (lt4 vl c sh) k x s) := by
  intro k
  induction k with
  | zero =>
    intro n x s hk hx hn hs
    obtain ⟨n, rfl⟩ : ∃ m, n = m + 1 := ⟨n - 1, by omega⟩
    have : x = S := by omega
    subst this
    unfold f_X1_limbOf_L5
    rw [if_pos (Int32.le_refl _)]
    exact ⟨rfl, hs⟩
  | succ k ih =>
    intro n x s hk hx hn hs
    obtain ⟨n, rfl⟩ : ∃ m, n = m + 1 := ⟨n - 1, by omega⟩
    have hq := Q_mg (hv (4 * x + c) (by omega))
    have ht := lt4_mg (hv (4 * x + c) (by omega)) (hsh x (by omega))
    obtain ⟨a1, a2⟩ := Mg_add hs (ht.up (show 134 ≤ 134 + 2 * x by omega)) (by omega)
    unfold f_X1_limbOf_L5
    rw [if_neg (show ¬ nI S ≤ nI x by rw [le_nI (by omega) (by omega)]; omega)]
    simp (disch := omega) only [l4, mu_nI, ad_nI, cl_nI, gd_iok, ad1]
    simp only [show x * 4 + c = 4 * x + c by omega]
    rw [gd_t (show fok (FP.fdiv (FP.i2f (vl (4 * x + c))) 1082130432) from fok_mg hq (by omega)), gd_t (show fok (FP.fmul (FP.fdiv (FP.i2f (vl (4 * x + c))) 1082130432) (sh x)) from fok_mg ht (by omega)), gd_t (show fok (FP.fadd s (FP.fmul (FP.fdiv (FP.i2f (vl (4 * x + c))) 1082130432) (sh x))) from a2)]
    exact ih n (x + 1) _ (by omega) (by omega) (by omega) a1
theorem p6_limb_L {vl : Nat → Int32} {sh mf : Nat → UInt32} {S c a : Nat} (ha : a < 2) (hS : S ≤ 6) (hc : c < 4) (hv : ∀ j, j < 4 * S → VOK (vl j)) (hsh : ∀ s, s < 6 → Sh (sh s)) (hmf : ∀ s, s < 6 → mf (6 * a + s) = sh s) : ∀ (k n x : Nat) (s : UInt32), k = S - x → x ≤ S → k < n → Mg (134 + 2 * x) s → f_X6_limbOf_L5 (nI S) (nI c) vl (nI a) mf n (nI x) s = some (nI S, fs (lt4 vl c sh) k x s) := by
  intro k
  induction k with
  | zero =>
    intro n x s hk hx hn hs
    obtain ⟨n, rfl⟩ : ∃ m, n = m + 1 := ⟨n - 1, by omega⟩
    have : x = S := by omega
    subst this
    unfold f_X6_limbOf_L5
    rw [if_pos (Int32.le_refl _)]
    rfl
  | succ k ih =>
    intro n x s hk hx hn hs
    obtain ⟨n, rfl⟩ : ∃ m, n = m + 1 := ⟨n - 1, by omega⟩
    have hq := Q_mg (hv (4 * x + c) (by omega))
    have ht := lt4_mg (hv (4 * x + c) (by omega)) (hsh x (by omega))
    obtain ⟨a1, a2⟩ := Mg_add hs (ht.up (show 134 ≤ 134 + 2 * x by omega)) (by omega)
    unfold f_X6_limbOf_L5
    rw [if_neg (show ¬ nI S ≤ nI x by rw [le_nI (by omega) (by omega)]; omega)]
    simp (disch := omega) only [l4, l6, mu_nI, ad_nI, cl_nI, gd_iok, ad1]
    rw [hmf x (by omega), gd_t (show fok (FP.fdiv (FP.i2f (vl (4 * x + c))) 1082130432) from fok_mg hq (by omega)), gd_t (show fok (FP.fmul (FP.fdiv (FP.i2f (vl (4 * x + c))) 1082130432) (sh x)) from fok_mg ht (by omega)), gd_t (show fok (FP.fadd s (FP.fmul (FP.fdiv (FP.i2f (vl (4 * x + c))) 1082130432) (sh x))) from a2)]
    exact ih n (x + 1) _ (by omega) (by omega) (by omega) a1
theorem Mg_0 : Mg 134 FP.fconst0 := by unfold Mg; decide
def Wg (w : Nat) : UInt32 := FP.fdiv (FP.i2f (nI w)) 1098907648
theorem w_tb : ∀ w, w < 17 → (Wg w).toNat % 2 ^ 31 < 128 * 2 ^ 23 ∧ (FP.fsub FP.fconst1 (Wg w)).toNat % 2 ^ 31 < 128 * 2 ^ 23 := by decide +kernel
theorem lim5 {vl : Nat → Int32} {sh : Nat → UInt32} {S c : Nat} (hS : S ≤ 6) (hc : c < 4) (hv : ∀ j, j < 4 * S → VOK (vl j)) (hsh : ∀ s, s < 6 → Sh (sh s)) : f_X1_limbOf sh (nI S) vl (nI c) = some (fs (lt4 vl c sh) S 0 FP.fconst0) ∧ Mg 146 (fs (lt4 vl c sh) S 0 FP.fconst0) := by
  obtain ⟨a1, a2⟩ := p_limb_L hS hc hv hsh S 1000 0 FP.fconst0 (by omega) (by omega) (by omega) Mg_0
  refine ⟨?_, a2.up (by omega)⟩
  unfold f_X1_limbOf
  rw [show f_X1_limbOf_L5 (nI S) (nI c) vl sh 1000 0 FP.fconst0 = f_X1_limbOf_L5 (nI S) (nI c) vl sh 1000 (nI 0) FP.fconst0 from rfl, a1]
  rfl
theorem lim6 {vl : Nat → Int32} {sh mf : Nat → UInt32} {S c a : Nat} (ha : a < 2) (hS : S ≤ 6) (hc : c < 4) (hv : ∀ j, j < 4 * S → VOK (vl j)) (hsh : ∀ s, s < 6 → Sh (sh s)) (hmf : ∀ s, s < 6 → mf (6 * a + s) = sh s) : f_X6_limbOf (nI S) vl mf (nI a) (nI c) = some (fs (lt4 vl c sh) S 0 FP.fconst0) := by
  unfold f_X6_limbOf
  rw [show f_X6_limbOf_L5 (nI S) (nI c) vl (nI a) mf 1000 0 FP.fconst0 = f_X6_limbOf_L5 (nI S) (nI c) vl (nI a) mf 1000 (nI 0) FP.fconst0 from rfl, p6_limb_L ha hS hc hv hsh hmf S 1000 0 FP.fconst0 (by omega) (by omega) (by omega) Mg_0]
  rfl
theorem fs_s (sh : Nat → UInt32) (k x : Nat) (s : UInt32) : fs sh (k + 1) x s = fs sh k (x + 1) (FP.fadd s (sh x)) := rfl
theorem fs_z (sh : Nat → UInt32) (x : Nat) (s : UInt32) : fs sh 0 x s = s := rfl
theorem lt4_congr {vl vl' : Nat → Int32} {c S : Nat} {sh : Nat → UInt32} (hc : c < 4) (h : ∀ j, j < 4 * S → vl j = vl' j) : ∀ (k x : Nat) (s : UInt32), x + k ≤ S → fs (lt4 vl c sh) k x s = fs (lt4 vl' c sh) k x s := by
  intro k
  induction k with
  | zero => intro x s _; rw [fs_z, fs_z]
  | succ k ih =>
    intro x s hx
    have e : lt4 vl c sh x = lt4 vl' c sh x := congrArg (fun v => FP.fmul (Qv v) (sh x)) (h (4 * x + c) (by omega))
    have i := ih (x + 1) (FP.fadd s (lt4 vl c sh x)) (by omega)
    have j : fs (lt4 vl' c sh) k (x + 1) (FP.fadd s (lt4 vl c sh x)) = fs (lt4 vl' c sh) k (x + 1) (FP.fadd s (lt4 vl' c sh x)) := congrArg (fun q => fs (lt4 vl' c sh) k (x + 1) (FP.fadd s q)) e
    rw [fs_s, fs_s]
    exact i.trans j
theorem s_mixed {S W mk wt c : Nat} {vl mvl mw : Nat → Int32} {mf : Nat → UInt32} {m : AM} (hS : S ≤ 6) (hwt : wt < 17) (hc : c < 4) (hv : ∀ j, j < 4 * S → vl j = mvl j ∧ VOK (mvl j)) (hok : MOK S W m) (hmr : MR m mw mf 0) :
    ∃ r, f_X5_mixedLimb (nI S) (nI mk) (nI wt) vl m.1.2.2.2.1 m.2.1.2.2.2.1 (nI c) = some r ∧ f_X6_theLimb (nI S) (nI mk) (nI wt) mvl mf (nI c) = some r ∧ Mg 150 r := by
  obtain ⟨w1, w2⟩ := w_tb wt hwt
  have hv5 : ∀ j, j < 4 * S → VOK (vl j) := fun j hj => by rw [(hv j hj).1]; exact (hv j hj).2
  have hv6 : ∀ j, j < 4 * S → VOK (mvl j) := fun j hj => (hv j hj).2
  have a5 := lim5 hS hc hv5 hok.1.2.2.2.1
  have b5 := lim5 hS hc hv5 hok.2.2.2.2.1
  have a6 := lim6 (a := 0) (by omega) hS hc hv6 hok.1.2.2.2.1 (fun s hs => by rw [← hmr.1.2.2.2.2.2.1 s hs])
  have b6 := lim6 (a := 1) (by omega) hS hc hv6 hok.2.2.2.2.1 (fun s hs => by rw [← hmr.2.1.2.2.2.2.2.1 s hs])
  rw [← lt4_congr hc (fun j hj => (hv j hj).1) S 0 _ (by omega)] at a6 b6
  unfold f_X5_mixedLimb f_X6_theLimb f_X5_upperWeight
  rw [a5.1, b5.1, show f_X6_limbOf (nI S) mvl mf 0 (nI c) = f_X6_limbOf (nI S) mvl mf (nI 0) (nI c) from rfl, show f_X6_limbOf (nI S) mvl mf 1 (nI c) = f_X6_limbOf (nI S) mvl mf (nI 1) (nI c) from rfl, a6, b6, p6_has]
  obtain ⟨-, a7⟩ := a5
  obtain ⟨-, b7⟩ := b5
  generalize fs (lt4 vl c m.1.2.2.2.1) S 0 FP.fconst0 = A at a7 ⊢
  generalize fs (lt4 vl c m.2.1.2.2.2.1) S 0 FP.fconst0 = Bq at b7 ⊢
  have hm : f_X0_isMasked (nI mk) (nI c) = some (bI (decide (((nI mk >>> (nI c &&& 31)) &&& 1) = 1))) := by
    unfold f_X0_isMasked bI
    by_cases h : ((nI mk >>> (nI c &&& 31)) &&& 1) = 1 <;> simp [h]
  rw [hm]
  simp only [Option.bind_some]
  have p1 : Mg 148 (FP.fmul A (FP.fsub FP.fconst1 (Wg wt))) := (FP.Core.fmul_mag (Ka := 146) (Kb := 128) a7 w2 (by omega) (by omega) : _)
  have p2 : Mg 148 (FP.fmul Bq (Wg wt)) := (FP.Core.fmul_mag (Ka := 146) (Kb := 128) b7 w1 (by omega) (by omega) : _)
  obtain ⟨p3, p4⟩ := Mg_add p1 p2 (by omega)
  by_cases h : ((nI mk >>> (nI c &&& 31)) &&& 1) = 1
  · rw [decide_eq_true h, if_neg (show ¬ bI true = 0 by decide), if_neg (show ¬ bI true = 0 by decide)]
    rw [gd_t (show fok (FP.fdiv (FP.i2f (nI wt)) 1098907648) from fok_mg w1 (by omega))]
    simp only [Option.bind_some]
    rw [gd_t (show fok (FP.fsub FP.fconst1 (FP.fdiv (FP.i2f (nI wt)) 1098907648)) from fok_mg w2 (by omega)), gd_t (show fok (FP.fmul A (FP.fsub FP.fconst1 (FP.fdiv (FP.i2f (nI wt)) 1098907648))) from fok_mg p1 (by omega)), gd_t (show fok (FP.fmul Bq (FP.fdiv (FP.i2f (nI wt)) 1098907648)) from fok_mg p2 (by omega)), gd_t (show fok (FP.fadd (FP.fmul A (FP.fsub FP.fconst1 (FP.fdiv (FP.i2f (nI wt)) 1098907648))) (FP.fmul Bq (FP.fdiv (FP.i2f (nI wt)) 1098907648))) from p4)]
    rw [gd_t (show fok (FP.fdiv (FP.i2f (nI wt)) 1098907648) from fok_mg w1 (by omega))]
    exact ⟨_, rfl, rfl, p3⟩
  · rw [decide_eq_false h, if_pos (show bI false = 0 from rfl), if_pos (show bI false = 0 from rfl)]
    exact ⟨_, rfl, rfl, a7.up (by omega)⟩
theorem do_limb {l : Launch} {D : va_G} {B : Nat} {adK adV : Nat → Nat} {cC cF cI cZ cM cS : ClassId} {xa : Nat} {ad : Nat → Nat} {ya : Nat} {am : Nat → Nat} {σ : XS} {τ : RS} (hR : RR σ τ) (i : Int32) : B_limb l D B adK adV cC cF cI cZ cM cS xa ad ya am i σ τ := by
  have hR0 := hR
  obtain ⟨tx, told, draft, now, guess, past, stored, ist, np, un, sh⟩ := σ
  obtain ⟨mst, mwy, mmk, mwt, mvl, mof, mw, mf, mun, mik, mtx, mln, mfi, mbe, mrs, mrw, mcl, mdo, mnu, mwd, msz, mso, mpl⟩ := τ
  obtain ⟨h1, h2, h3, S, W, h4, u, p, m, hu, hp, eu, emu, ep, en, hok, hmr, hpa, hkp⟩ := hR
  simp only at h1 h2 h3 h4 eu emu ep en hmr hpa hkp
  subst eu emu ep en
  obtain ⟨tst, twy, tmk, twt, tvl, tpt⟩ := told
  have h4' := h4
  obtain ⟨f1, f2, f3, f4, ⟨mk, hmk, f5, f5'⟩, ⟨wt, hwt, f6, f6'⟩, f7, f8, f9⟩ := h4
  simp only at f1 f3 f5 f6 f7 f8 f9
  subst f1 f2 f3 f4 f5 f5' f6 f6'
  have hS := f8.1
  have fin : ∀ r : Int32, f_X5_limb (nI S) (nI mk) (nI wt) tvl m.1.2.2.2.1 m.2.1.2.2.2.1 i = some r → f_X6_limb (nI S) (nI mk) (nI wt) mvl mf i = some r → B_limb l D B adK adV cC cF cI cZ cM cS xa ad ya am i (tx, (nI S, nI W, nI mk, nI wt, tvl, tpt), draft, moT m, guess, past, stored, ist, nI p, nI u, sh) (nI S, nI W, nI mk, nI wt, mvl, mof, mw, mf, nI u, mik, mtx, mln, mfi, mbe, mrs, mrw, mcl, mdo, mnu, mwd, msz, mso, mpl) := by
    intro r e1 e2
    exact ⟨.int r, _, _, k_limb l D B adK adV cC cF cI cZ cM cS xa ad (tx, (nI S, nI W, nI mk, nI wt, tvl, tpt), draft, moT m, guess, past, stored, ist, nI p, nI u, sh) i r e1, k6_limb l D B adK adV cC cF cI cZ cM cS ya am (nI S, nI W, nI mk, nI wt, mvl, mof, mw, mf, nI u, mik, mtx, mln, mfi, mbe, mrs, mrw, mcl, mdo, mnu, mwd, msz, mso, mpl) i r e2, hR0⟩
  unfold f_X5_limb f_X6_limb f_X5_isLimb at fin
  rw [show f_X6_in i.toInt64 0 3 = f_X6_in i.toInt64 0 (nI 4 - 1).toInt64 from rfl] at fin
  rcases ix_cases i 4 (by omega) with hk | hk | ⟨c, hc, rfl⟩
  · exact fin (-2) (by rw [if_pos hk]; rfl) (by rw [in_lo hk]; rfl)
  · exact fin (-2) (by rw [if_neg (ge_neg (by omega) hk), if_pos (show (4 : Int32) ≤ i from hk)]; rfl) (by rw [in_hi (by omega) hk]; rfl)
  · rw [if_neg (nneg (by omega)), if_neg (show ¬ (4 : Int32) ≤ nI c by show ¬ nI 4 ≤ nI c; rw [le_nI (by omega) (by omega)]; omega), in_ok (by omega) hc] at fin
    simp only [Option.bind_some, if_neg o10] at fin
    by_cases hS0 : S = 0
    · subst hS0
      exact fin (-4) rfl rfl
    · have hSn : ¬ nI S = 0 := by show ¬ nI S = nI 0; rw [eq_nI (by omega) (by omega)]; exact hS0
      obtain ⟨r, e1, e2, e3⟩ := s_mixed (mk := mk) (W := W) hS hwt hc f7 hok hmr
      have e4 : fok (FP.fmul r 1149239296) := fok_mg (K := 150 + 138 - 129 + 3) (FP.Core.fmul_mag (Ka := 150) (Kb := 138) e3 (by decide) (by omega) (by omega) : _) (by omega)
      rw [if_neg hSn, if_neg hSn, e1, e2] at fin
      simp only [Option.bind_some, gd_t e4] at fin
      exact fin _ rfl rfl
