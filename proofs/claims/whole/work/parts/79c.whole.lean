/-! ===== whole: the sums of shares ===== -/
theorem fok_mg {a : UInt32} {K : Nat} (h : a.toNat % 2 ^ 31 < K * 2 ^ 23) (hK : K ≤ 255) : fok a := by
  rw [fok_iff, FP.Core.ne_nan32]
  omega
/-- a sum that has x shares in it -/
def SmX (x : Nat) (s : UInt32) : Prop := s.toNat < (128 + 2 * x) * 2 ^ 23
theorem SmX_add {x : Nat} {s b : UInt32} (hx : x < 40) (hs : SmX x s) (hb : Sh b) : SmX (x + 1) (FP.fadd s b) ∧ fok (FP.fadd s b) := by
  unfold SmX at hs ⊢
  unfold Sh at hb
  have h1 := FP.Core.fadd_mag (a := s) (b := b) (K := 128 + 2 * x) (by omega) (by omega) (by omega)
  have h2 := fadd_nn (a := s) (b := b) (by omega) (by omega)
  have h3 := nn_of h2.1 h2.2
  have h4 : (FP.fadd s b).toNat % 2 ^ 31 < (128 + 2 * x + 2) * 2 ^ 23 := h1
  rw [Nat.mod_eq_of_lt h3] at h4
  exact ⟨by omega, (fok_iff _).mpr h2.1⟩
def fs (sh : Nat → UInt32) : Nat → Nat → UInt32 → UInt32
  | 0, _, s => s
  | k + 1, x, s => fs sh k (x + 1) (FP.fadd s (sh x))
theorem fs_ok {sh : Nat → UInt32} (hsh : ∀ s, s < 6 → Sh (sh s)) : ∀ (k x : Nat) (s : UInt32), x + k ≤ 6 → SmX x s → SmX (x + k) (fs sh k x s) := by
  intro k
  induction k with
  | zero => intro x s _ h; exact h
  | succ k ih =>
    intro x s hx h
    have := ih (x + 1) (FP.fadd s (sh x)) (by omega) (SmX_add (by omega) h (hsh x (by omega))).1
    rw [show x + (k + 1) = x + 1 + k by omega]
    exact this
theorem fs_app (sh : Nat → UInt32) : ∀ (a b x : Nat) (s : UInt32), fs sh (a + b) x s = fs sh b (x + a) (fs sh a x s) := by
  intro a
  induction a with
  | zero => intro b x s; rw [Nat.zero_add]; rfl
  | succ a ih =>
    intro b x s
    rw [show a + 1 + b = (a + b) + 1 by omega]
    show fs sh (a + b) (x + 1) (FP.fadd s (sh x)) = _
    rw [ih, show x + 1 + a = x + (a + 1) by omega]
    rfl
theorem fs_zero {sh : Nat → UInt32} : ∀ (k x : Nat) (s : UInt32), s.toNat < 2139095040 → (∀ j, x ≤ j → j < x + k → sh j = FP.fconst0) → fs sh k x s = s := by
  intro k
  induction k with
  | zero => intro x s _ _; rfl
  | succ k ih =>
    intro x s hs h
    have e : FP.fadd s FP.fconst0 = s := FP.Core.fadd_zero (by obtain ⟨_, _, hv, -⟩ := nn_val hs; rw [hv]; exact FP.Core.Datum.noConfusion) (by
      intro z
      rw [z] at hs
      exact absurd hs (by decide))
    show fs sh k (x + 1) (FP.fadd s (sh x)) = s
    rw [h x (Nat.le_refl _) (by omega), e]
    exact ih (x + 1) s hs (fun j h1 h2 => h j (by omega) (by omega))
theorem p_sum_L {sh : Nat → UInt32} {S : Nat} (hS : S ≤ 6) (hsh : ∀ s, s < 6 → Sh (sh s)) : ∀ (k n x : Nat) (s : UInt32), k = S - x → x ≤ S → k < n → SmX x s → f_X1_sumOfShares_L4 (nI S) sh n (nI x) s = some (nI S, fs sh k x s) := by
  intro k
  induction k with
  | zero =>
    intro n x s hk hx hn hs
    obtain ⟨n, rfl⟩ : ∃ m, n = m + 1 := ⟨n - 1, by omega⟩
    have : x = S := by omega
    subst this
    unfold f_X1_sumOfShares_L4
    rw [if_pos (Int32.le_refl _)]
    rfl
  | succ k ih =>
    intro n x s hk hx hn hs
    obtain ⟨n, rfl⟩ : ∃ m, n = m + 1 := ⟨n - 1, by omega⟩
    obtain ⟨a1, a2⟩ := SmX_add (show x < 40 by omega) hs (hsh x (by omega))
    unfold f_X1_sumOfShares_L4
    rw [if_neg (show ¬ nI S ≤ nI x by rw [le_nI (by omega) (by omega)]; omega)]
    simp (disch := omega) only [cl_nI, gd_iok, ad1]
    rw [gd_t a2]
    exact ih n (x + 1) _ (by omega) (by omega) (by omega) a1
theorem p6_sum_L {sh mf : Nat → UInt32} {a : Nat} (ha : a < 2) (hsh : ∀ s, s < 6 → Sh (sh s)) (hmf : ∀ s, s < 6 → mf (6 * a + s) = sh s) : ∀ (k n x : Nat) (s : UInt32), k = 6 - x → x ≤ 6 → k < n → SmX x s → f_X6_whole_L24 (nI a) mf n (nI x) s = some (nI 6, fs sh k x s) := by
  intro k
  induction k with
  | zero =>
    intro n x s hk hx hn hs
    obtain ⟨n, rfl⟩ : ∃ m, n = m + 1 := ⟨n - 1, by omega⟩
    have : x = 6 := by omega
    subst this
    unfold f_X6_whole_L24
    rw [if_pos (show (6 : Int32) ≤ nI 6 from Int32.le_refl _)]
    rfl
  | succ k ih =>
    intro n x s hk hx hn hs
    obtain ⟨n, rfl⟩ : ∃ m, n = m + 1 := ⟨n - 1, by omega⟩
    obtain ⟨a1, a2⟩ := SmX_add (show x < 40 by omega) hs (hsh x (by omega))
    unfold f_X6_whole_L24
    rw [if_neg (show ¬ (6 : Int32) ≤ nI x by show ¬ nI 6 ≤ nI x; rw [le_nI (by omega) (by omega)]; omega)]
    simp (disch := omega) only [l6, mu_nI, ad_nI, cl_nI, gd_iok, ad1]
    rw [hmf x (by omega), gd_t a2]
    exact ih n (x + 1) _ (by omega) (by omega) (by omega) a1
theorem sum_same {sh : Nat → UInt32} {S : Nat} (hS : S ≤ 6) (hsh : ∀ s, s < 6 → Sh (sh s)) (hz : ∀ s, s < 6 → S ≤ s → sh s = FP.fconst0) : fs sh 6 0 FP.fconst0 = fs sh S 0 FP.fconst0 := by
  have h0 : SmX 0 FP.fconst0 := by unfold SmX; decide
  have h1 := fs_ok hsh S 0 FP.fconst0 (by omega) h0
  unfold SmX at h1
  rw [show 6 = S + (6 - S) by omega, fs_app]
  exact fs_zero _ _ _ (by omega) (fun j a b => hz j (by omega) (by omega))
theorem ex_ok {r : UInt32} (h : SmX 6 r) : fok (FP.fsub r FP.fconst1) ∧ fok (FP.fmul (FP.fsub r FP.fconst1) 1266679808) := by
  unfold SmX at h
  have h1 := FP.Core.fsub_mag (a := r) (b := FP.fconst1) (K := 140) (by omega) (by decide) (by omega)
  have h1' : (FP.fsub r FP.fconst1).toNat % 2 ^ 31 < (140 + 2) * 2 ^ 23 := h1
  have h2 := FP.Core.fmul_mag (a := FP.fsub r FP.fconst1) (b := 1266679808) (Ka := 142) (Kb := 152) h1' (by decide) (by omega) (by omega)
  exact ⟨fok_mg h1' (by omega), fok_mg (K := 142 + 152 - 129 + 3) (by exact h2) (by omega)⟩
theorem do_whole {l : Launch} {D : va_G} {B : Nat} {adK adV : Nat → Nat} {cC cF cI cZ cM cS : ClassId} {xa : Nat} {ad : Nat → Nat} {ya : Nat} {am : Nat → Nat} {σ : XS} {τ : RS} (hR : RR σ τ) (i : Int32) : B_whole l D B adK adV cC cF cI cZ cM cS xa ad ya am i σ τ := by
  have hR0 := hR
  obtain ⟨tx, told, draft, now, guess, past, stored, ist, np, un, sh⟩ := σ
  obtain ⟨mst, mwy, mmk, mwt, mvl, mof, mw, mf, mun, mik, mtx, mln, mfi, mbe, mrs, mrw, mcl, mdo, mnu, mwd, msz, mso, mpl⟩ := τ
  obtain ⟨h1, h2, h3, S, W, h4, u, p, m, hu, hp, eu, emu, ep, en, hok, hmr, hpa, hkp⟩ := hR
  simp only at h1 h2 h3 h4 eu emu ep en hmr hpa hkp
  subst eu emu ep en
  obtain ⟨tst, twy, tmk, twt, tvl, tpt⟩ := told
  have h4' := h4
  obtain ⟨f1, f2, f3, f4, -, -, -, f8, f9⟩ := h4
  simp only at f1 f3 f8 f9
  subst f1 f2 f3 f4
  have hS := f8.1
  have fin : ∀ r : Int32, f_X5_whole (nI S) m.1.2.2.2.1 m.2.1.2.2.2.1 i = some r → f_X6_whole (nI S) mf i = some r → B_whole l D B adK adV cC cF cI cZ cM cS xa ad ya am i (tx, (nI S, nI W, tmk, twt, tvl, tpt), draft, moT m, guess, past, stored, ist, nI p, nI u, sh) (nI S, nI W, mmk, mwt, mvl, mof, mw, mf, nI u, mik, mtx, mln, mfi, mbe, mrs, mrw, mcl, mdo, mnu, mwd, msz, mso, mpl) := by
    intro r e1 e2
    exact ⟨.int r, _, _, k_whole l D B adK adV cC cF cI cZ cM cS xa ad (tx, (nI S, nI W, tmk, twt, tvl, tpt), draft, moT m, guess, past, stored, ist, nI p, nI u, sh) i r e1, k6_whole l D B adK adV cC cF cI cZ cM cS ya am (nI S, nI W, mmk, mwt, mvl, mof, mw, mf, nI u, mik, mtx, mln, mfi, mbe, mrs, mrw, mcl, mdo, mnu, mwd, msz, mso, mpl) i r e2, hR0⟩
  rcases ix_cases i 2 (by omega) with hi | hi | ⟨a, ha, rfl⟩
  · exact fin (-2) (by unfold f_X5_whole; rw [(isLy_lo hi).1]; rfl) (by unfold f_X6_whole; rw [(isLy_lo hi).2]; rfl)
  · exact fin (-2) (by unfold f_X5_whole; rw [(isLy_hi hi).1]; rfl) (by unfold f_X6_whole; rw [(isLy_hi hi).2]; rfl)
  · by_cases hS0 : S = 0
    · subst hS0
      exact fin (-4) (by unfold f_X5_whole; rw [(isLy_ok ha).1]; rfl) (by unfold f_X6_whole; rw [(isLy_ok ha).2]; rfl)
    · have hSn : ¬ nI S = 0 := by show ¬ nI S = nI 0; rw [eq_nI (by omega) (by omega)]; exact hS0
      obtain ⟨-, -, -, hsh, hz⟩ := lyA_ok hok ha
      have hmf := (lyA_LR hmr ha).2.2.2.2.2.1
      have h0 : SmX 0 FP.fconst0 := by unfold SmX; decide
      have hsum : f_X1_sumOfShares (lyA m a).2.2.2.1 (nI S) = some (fs (lyA m a).2.2.2.1 S 0 FP.fconst0) := by
        unfold f_X1_sumOfShares
        rw [show (0 : Int32) = nI 0 from rfl, p_sum_L hS hsh S 1000 0 FP.fconst0 (by omega) (by omega) (by omega) h0]
        rfl
      have hsm : SmX 6 (fs (lyA m a).2.2.2.1 S 0 FP.fconst0) := by
        have := fs_ok hsh S 0 FP.fconst0 (by omega) h0
        unfold SmX at this ⊢
        exact Nat.lt_of_lt_of_le this (Nat.mul_le_mul_right _ (by omega))
      obtain ⟨k1, k2⟩ := ex_ok hsm
      refine fin (FP.f2i (FP.fmul (FP.fsub (fs (lyA m a).2.2.2.1 S 0 FP.fconst0) FP.fconst1) 1266679808) + 100) ?_ ?_
      · unfold f_X5_whole
        rw [(isLy_ok ha).1]
        simp only [Option.bind_some, if_neg o10]
        rw [if_neg hSn]
        obtain rfl | rfl : a = 0 ∨ a = 1 := by omega
        · rw [if_pos (show nI 0 = 0 from rfl), show f_X1_sumOfShares m.1.2.2.2.1 (nI S) = _ from hsum]
          show gd _ (gd _ _) = _
          rw [gd_t k1, gd_t k2]
        · rw [if_neg (show ¬ nI 1 = 0 by decide), if_pos (show nI 1 = 1 from rfl), show f_X1_sumOfShares m.2.1.2.2.2.1 (nI S) = _ from hsum]
          show gd _ (gd _ _) = _
          rw [gd_t k1, gd_t k2]
      · unfold f_X6_whole
        rw [(isLy_ok ha).2]
        simp only [Option.bind_some, if_neg o10]
        rw [if_neg hSn, show (0 : Int32) = nI 0 from rfl, p6_sum_L ha hsh (fun s hs => by rw [← hmf s hs]; congr 1; omega) 6 1000 0 FP.fconst0 (by omega) (by omega) (by omega) h0, sum_same hS hsh (fun s h1 h2 => hz s h1 (by omega))]
        simp only [Option.bind_some]
        rw [gd_t k1, gd_t k2]
