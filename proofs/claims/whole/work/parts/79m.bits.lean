/-! ===== bits of a share ===== -/
theorem uo_eq (n : Nat) : uo n = if n < 8388608 then n else (8388608 + n % 8388608) * 2 ^ (n / 8388608 - 1) := by
  unfold uo FP.Core.unitsOf
  rw [show FP.Core.b32.tails = 8388608 from by decide]
theorem Zf.of {x : UInt32} (h : x.toNat < 2139095040) : Zf x false (uo x.toNat) := by
  obtain ⟨c, q, hv, hf, hz⟩ := nn_val h
  refine ⟨?_, ?_, ?_⟩
  · rw [hv]; exact FP.Core.Datum.noConfusion
  · rw [hv]; rfl
  · rw [hv]; exact hz
theorem zf_1 : Zf FP.fconst1 false (2 ^ 149) := by
  have := Zf.of (x := FP.fconst1) (by decide)
  rw [show uo (FP.fconst1 : UInt32).toNat = 2 ^ 149 from by decide +kernel] at this
  exact this
theorem zf_2 : Zf FP.fconst2 false (2 ^ 150) := by
  have := Zf.of (x := FP.fconst2) (by decide)
  rw [show uo (FP.fconst2 : UInt32).toNat = 2 ^ 150 from by decide +kernel] at this
  exact this
theorem zf_m : Zf 1258291200 false (2 ^ 172) := by
  have := Zf.of (x := 1258291200) (by decide)
  rw [show uo (1258291200 : UInt32).toNat = 2 ^ 172 from by decide +kernel] at this
  exact this
theorem p_lt {m j P Q R : Nat} (hm : m < 2 ^ P) (hj : j ≤ Q) (h : P + Q ≤ R) : m * 2 ^ j < 2 ^ R := by
  calc m * 2 ^ j < 2 ^ P * 2 ^ j := Nat.mul_lt_mul_of_pos_right hm (Nat.two_pow_pos _)
    _ = 2 ^ (P + j) := (Nat.pow_add ..).symm
    _ ≤ 2 ^ R := Nat.pow_le_pow_right (by decide) (by omega)
theorem Zf.dbl {a : UInt32} {m j : Nat} (ha : Zf a false (m * 2 ^ j)) (hm : m < 2 ^ 24) (hj : j ≤ 150) : Zf (FP.fmul a FP.fconst2) false (m * 2 ^ (j + 1)) := by
  refine Zf.mul ha zf_2 (p_lt hm hj (by omega)) (Nat.pow_lt_pow_right (by decide) (by omega)) hm (by omega) ?_
  rw [Nat.mul_assoc, Nat.mul_assoc, ← Nat.pow_add, ← Nat.pow_add, show j + 150 = j + 1 + 149 by omega]
theorem n_m1 : ∀ k, k < 200 → nI (k + 1) + (-1) = nI k := by decide +kernel
/-- a normal share: doubled until it is 1 at least -/
theorem fb_n {m : Nat} (h1 : 2 ^ 23 ≤ m) (h2 : m < 2 ^ 24) : ∀ (k n x e j : Nat) (a : UInt32), k = 126 - j → j ≤ 126 → x + k ≤ 126 → k < n → e + k < 200 → Zf a false (m * 2 ^ j) → ∃ a', f_X5_floatBits_L7 n (nI x) (nI (e + k)) a = some (nI (x + k), nI e, a') ∧ Zf a' false (m * 2 ^ 126) := by
  intro k
  induction k with
  | zero =>
    intro n x e j a hk hj hx hn he ha
    obtain ⟨n, rfl⟩ : ∃ q, n = q + 1 := ⟨n - 1, by omega⟩
    have : j = 126 := by omega
    subst this
    unfold f_X5_floatBits_L7
    have hge : 0 ≤ Op.cmpValue (FP.fcmp a FP.fconst1) .g := (Zf.ge ha zf_1).mpr (by
      calc 2 ^ 149 = 2 ^ 23 * 2 ^ 126 := by rw [← Nat.pow_add]
        _ ≤ m * 2 ^ 126 := Nat.mul_le_mul_right _ h1)
    rw [if_pos hge]
    exact ⟨a, by split <;> rfl, ha⟩
  | succ k ih =>
    intro n x e j a hk hj hx hn he ha
    obtain ⟨n, rfl⟩ : ∃ q, n = q + 1 := ⟨n - 1, by omega⟩
    unfold f_X5_floatBits_L7
    have hge : ¬ 0 ≤ Op.cmpValue (FP.fcmp a FP.fconst1) .g := fun z => by
      have := (Zf.ge ha zf_1).mp z
      have := p_lt (R := 149) h2 (show j ≤ 125 by omega) (by omega)
      omega
    have hd := ha.dbl h2 (by omega)
    rw [if_neg (show ¬ (126 : Int32) ≤ nI x by show ¬ nI 126 ≤ nI x; rw [le_nI (by omega) (by omega)]; omega), if_neg hge, gd_t hd.ok, ad1, show e + (k + 1) = e + k + 1 by omega, n_m1 _ (by omega)]
    obtain ⟨a', e1, e2⟩ := ih n (x + 1) e (j + 1) _ (by omega) (by omega) (by omega) (by omega) (by omega) hd
    exact ⟨a', by rw [e1, show x + 1 + k = x + (k + 1) by omega], e2⟩
/-- a share below the least normal float: doubled as often as may be -/
theorem fb_s {m : Nat} (h2 : m < 2 ^ 23) : ∀ (k n x e : Nat) (a : UInt32), k = 126 - x → x ≤ 126 → k < n → e + k < 200 → Zf a false (m * 2 ^ x) → ∃ a', f_X5_floatBits_L7 n (nI x) (nI (e + k)) a = some (nI 126, nI e, a') ∧ Zf a' false (m * 2 ^ 126) := by
  intro k
  induction k with
  | zero =>
    intro n x e a hk hx hn he ha
    obtain ⟨n, rfl⟩ : ∃ q, n = q + 1 := ⟨n - 1, by omega⟩
    have : x = 126 := by omega
    subst this
    unfold f_X5_floatBits_L7
    rw [if_pos (show (126 : Int32) ≤ nI 126 by decide)]
    exact ⟨a, rfl, ha⟩
  | succ k ih =>
    intro n x e a hk hx hn he ha
    obtain ⟨n, rfl⟩ : ∃ q, n = q + 1 := ⟨n - 1, by omega⟩
    unfold f_X5_floatBits_L7
    have hge : ¬ 0 ≤ Op.cmpValue (FP.fcmp a FP.fconst1) .g := fun z => by
      have := (Zf.ge ha zf_1).mp z
      have := p_lt (R := 149) h2 (show x ≤ 125 by omega) (by omega)
      omega
    have hd := ha.dbl (Nat.lt_of_lt_of_le h2 (Nat.pow_le_pow_right (by decide) (by omega))) (by omega)
    rw [if_neg (show ¬ (126 : Int32) ≤ nI x by show ¬ nI 126 ≤ nI x; rw [le_nI (by omega) (by omega)]; omega), if_neg hge, gd_t hd.ok, ad1, show e + (k + 1) = e + k + 1 by omega, n_m1 _ (by omega)]
    exact ih n (x + 1) e _ (by omega) (by omega) (by omega) (by omega) hd
theorem Zf.int {a : UInt32} {M : Nat} (h : Zf a false (M * 2 ^ 149)) (hM : M < 2 ^ 24) : FP.f2i a = nI M := by
  have e := FP.Core.f2i_val h.1
  rw [h.2.1, h.2.2, show FP.Core.one32 = 2 ^ 149 from rfl, Nat.mul_div_cancel _ (Nat.two_pow_pos _)] at e
  have e2 : (FP.f2i a).toInt = max (-2 ^ 31) (min (2 ^ 31 - 1) ((M : Nat) : Int)) := e
  apply Int32.toInt_inj.mp
  rw [e2, nI_ti (by omega)]
  omega
theorem shl_tab : ∀ e, e < 256 → (nI e <<< ((23 : Int32) &&& 31)) = nI (e * 8388608) := by decide +kernel
theorem mul23 {a : UInt32} {M : Nat} (h : Zf a false (M * 2 ^ 126)) (hM : M < 2 ^ 24) : Zf (FP.fmul a 1258291200) false (M * 2 ^ 149) := by
  refine Zf.mul h zf_m (p_lt hM (Nat.le_refl _) (by omega)) (Nat.pow_lt_pow_right (by decide) (by omega)) hM (by omega) ?_
  rw [Nat.mul_assoc, Nat.mul_assoc, ← Nat.pow_add]
theorem q_floatBits {x : UInt32} (hx : Sh x) : f_X5_floatBits x = some (nI x.toNat) := by
  have hx1 : x.toNat ≤ 1065353216 := hx
  have hz := Zf.of hx.lt
  rw [uo_eq] at hz
  unfold f_X5_floatBits
  by_cases hs : x.toNat < 8388608
  · rw [if_pos hs] at hz
    generalize x.toNat = X at *
    obtain ⟨a', e1, e2⟩ := fb_s (m := X) hs 126 1000 0 1 x (by omega) (by omega) (by omega) (by omega) (by rw [Nat.pow_zero, Nat.mul_one]; exact hz)
    have e1' : f_X5_floatBits_L7 1000 0 127 x = some (nI 126, nI 1, a') := e1
    rw [e1']
    simp only [Option.bind_some]
    have hge : ¬ 0 ≤ Op.cmpValue (FP.fcmp a' FP.fconst1) .g := fun z => by
      have := (Zf.ge e2 zf_1).mp z
      have := p_lt (P := 23) (R := 149) (j := 126) (Q := 126) hs (Nat.le_refl _) (by omega)
      omega
    have h3 := mul23 e2 (show X < 2 ^ 24 by omega)
    rw [if_neg hge, gd_t h3.ok, h3.int (by omega)]
  · rw [if_neg hs] at hz
    generalize x.toNat = X at *
    have hM : X % 8388608 < 8388608 := Nat.mod_lt _ (by omega)
    have hE := Nat.div_add_mod X 8388608
    generalize X % 8388608 = M at *
    generalize X / 8388608 = E at *
    obtain ⟨a', e1, e2⟩ := fb_n (m := 8388608 + M) (by omega) (by omega) (127 - E) 1000 0 E (E - 1) x (by omega) (by omega) (by omega) (by omega) (by omega) hz
    have e1' : f_X5_floatBits_L7 1000 0 127 x = some (nI (0 + (127 - E)), nI E, a') := by
      rw [← e1, show E + (127 - E) = 127 by omega]
      rfl
    rw [e1']
    simp only [Option.bind_some]
    have hge : 0 ≤ Op.cmpValue (FP.fcmp a' FP.fconst1) .g := (Zf.ge e2 zf_1).mpr (by
      calc 2 ^ 149 = 8388608 * 2 ^ 126 := by decide
        _ ≤ (8388608 + M) * 2 ^ 126 := Nat.mul_le_mul_right _ (by omega))
    have h4 := Zf.sub e2 zf_1 (p_lt (P := 24) (Q := 126) (by omega) (Nat.le_refl _) (by omega)) (Nat.pow_lt_pow_right (by decide) (by omega)) (show M < 2 ^ 24 by omega) (show 126 ≤ 253 by omega) (by
      rw [Nat.add_mul, show 8388608 * 2 ^ 126 = 2 ^ 149 from by decide])
    have h5 := mul23 h4 (show M < 2 ^ 24 by omega)
    rw [if_pos hge, gd_t h4.ok, gd_t h5.ok, h5.int (by omega), shl_tab E (by omega), ad_nI, show E * 8388608 + M = X by omega]
theorem u_i (x : UInt32) : x.toInt32 = nI x.toNat := by
  have e : UInt32.ofNat x.toNat = x := UInt32.ofNat_toNat
  conv => lhs; rw [← e]
  rfl
theorem q6_floatBits {x : UInt32} (hx : Sh x) : f_Jxf58ca_floatToIntBits_5c35a x = some (nI x.toNat) := by
  have hz := Zf.of hx.lt
  have e : FP.fcmp x x = some .eq := FP.Core.fcmp_self hz.1
  unfold f_Jxf58ca_floatToIntBits_5c35a f_Jxf58ca_isNaN_12338
  rw [e, if_pos (show Op.cmpValue (some .eq) .l = 0 from rfl)]
  simp only [Option.bind_some, if_true]
  rw [u_i]
theorem do_bits {l : Launch} {D : va_G} {B : Nat} {adK adV : Nat → Nat} {cC cF cI cZ cM cS : ClassId} {xa : Nat} {ad : Nat → Nat} {ya : Nat} {am : Nat → Nat} {σ : XS} {τ : RS} (hR : RR σ τ) (i k : Int32) : B_bits l D B adK adV cC cF cI cZ cM cS xa ad ya am i k σ τ := by
  have hR0 := hR
  obtain ⟨tx, told, draft, now, guess, past, stored, ist, np, un, sh⟩ := σ
  obtain ⟨mst, mwy, mmk, mwt, mvl, mof, mw, mf, mun, mik, mtx, mln, mfi, mbe, mrs, mrw, mcl, mdo, mnu, mwd, msz, mso, mpl⟩ := τ
  obtain ⟨h1, h2, h3, S, W, h4, u, p, m, hu, hp, eu, emu, ep, en, hok, hmr, hpa, hkp⟩ := hR
  simp only at h1 h2 h3 h4 eu emu ep en hmr hpa hkp
  subst eu emu ep en
  obtain ⟨tst, twy, tmk, twt, tvl, tpt⟩ := told
  have h4' := h4
  obtain ⟨f1, f2, f3, f4, -, -, -, f8, f9⟩ := h4
  simp only at f1 f3 f8 f9
  subst f1 f2 f3 f4
  have hS := f8.1
  have fin : ∀ r : Int32, f_X5_bits (nI S) m.1.2.2.2.1 m.2.1.2.2.2.1 i k = some r → f_X6_bits (nI S) mf i k = some r → B_bits l D B adK adV cC cF cI cZ cM cS xa ad ya am i k (tx, (nI S, nI W, tmk, twt, tvl, tpt), draft, moT m, guess, past, stored, ist, nI p, nI u, sh) (nI S, nI W, mmk, mwt, mvl, mof, mw, mf, nI u, mik, mtx, mln, mfi, mbe, mrs, mrw, mcl, mdo, mnu, mwd, msz, mso, mpl) := by
    intro r e1 e2
    exact ⟨.int r, _, _, k_bits l D B adK adV cC cF cI cZ cM cS xa ad (tx, (nI S, nI W, tmk, twt, tvl, tpt), draft, moT m, guess, past, stored, ist, nI p, nI u, sh) i k r e1, k6_bits l D B adK adV cC cF cI cZ cM cS ya am (nI S, nI W, mmk, mwt, mvl, mof, mw, mf, nI u, mik, mtx, mln, mfi, mbe, mrs, mrw, mcl, mdo, mnu, mwd, msz, mso, mpl) i k r e2, hR0⟩
  rcases ix_cases i 2 (by omega) with hi | hi | ⟨a, ha, rfl⟩
  · exact fin (-2) (by unfold f_X5_bits; rw [(isLy_lo hi).1]; rfl) (by unfold f_X6_bits; rw [(isLy_lo hi).2]; rfl)
  · exact fin (-2) (by unfold f_X5_bits; rw [(isLy_hi hi).1]; rfl) (by unfold f_X6_bits; rw [(isLy_hi hi).2]; rfl)
  · rcases ix_cases k S (by omega) with hi | hi | ⟨b, hb, rfl⟩
    · exact fin (-2) (by unfold f_X5_bits; rw [(isLy_ok ha).1, (isSt_lo hi).1]; rfl) (by unfold f_X6_bits; rw [(isLy_ok ha).2, (isSt_lo hi).2]; rfl)
    · exact fin (-2) (by unfold f_X5_bits; rw [(isLy_ok ha).1, (isSt_hi (by omega) hi).1]; rfl) (by unfold f_X6_bits; rw [(isLy_ok ha).2, (isSt_hi (by omega) hi).2]; rfl)
    · have hsh := (lyA_ok hok ha).2.2.2.1 b (by omega)
      have hmf := (lyA_LR hmr ha).2.2.2.2.2.1 b (by omega)
      have q5 := q_floatBits hsh
      have q6 := q6_floatBits hsh
      refine fin (nI ((lyA m a).2.2.2.1 b).toNat) ?_ ?_
      · unfold f_X5_bits
        rw [(isLy_ok ha).1, (isSt_ok (by omega) hb).1]
        simp only [Option.bind_some, if_neg o10]
        simp (disch := omega) only [cl_nI, gd_iok]
        obtain rfl | rfl : a = 0 ∨ a = 1 := by omega
        · rw [if_pos (show nI 0 = 0 from rfl), show f_X5_floatBits (m.1.2.2.2.1 b) = _ from q5]
          rfl
        · rw [if_neg (show ¬ nI 1 = 0 by decide), if_pos (show nI 1 = 1 from rfl), show f_X5_floatBits (m.2.1.2.2.2.1 b) = _ from q5]
          rfl
      · unfold f_X6_bits
        rw [(isLy_ok ha).2, (isSt_ok (by omega) hb).2]
        simp only [Option.bind_some, if_neg o10]
        simp (disch := omega) only [l6, mu_nI, ad_nI, cl_nI, gd_iok]
        rw [show mf (6 * a + b) = (lyA m a).2.2.2.1 b from by rw [← hmf]; congr 1; omega, q6]
        rfl
