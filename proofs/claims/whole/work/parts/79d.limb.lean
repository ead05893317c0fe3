/-! ===== limb ===== -/
def Mg (K : Nat) (a : UInt32) : Prop := a.toNat % 2 ^ 31 < K * 2 ^ 23
def Qv (v : Int32) : UInt32 := FP.fdiv (FP.i2f v) 1082130432
theorem q_tab : ∀ n, n < 100 → (Qv (nI n)).toNat % 2 ^ 31 < 132 * 2 ^ 23 ∧ (Qv (-(nI n))).toNat % 2 ^ 31 < 132 * 2 ^ 23 := by decide +kernel
theorem VOK_cases {v : Int32} (h : VOK v) : ∃ n, n < 100 ∧ (v = nI n ∨ v = -(nI n)) := by
  obtain ⟨h1, h2⟩ := h
  by_cases h0 : 0 ≤ v.toInt
  · refine ⟨v.toInt.toNat, by omega, Or.inl (Int32.toInt_inj.mp ?_)⟩
    rw [nI_ti (by omega)]
    omega
  · refine ⟨(-v.toInt).toNat, by omega, Or.inr (Int32.toInt_inj.mp ?_)⟩
    rw [Int32.toInt_neg, nI_ti (by omega)]
    rw [Int.bmod_eq_of_le (by omega) (by omega)]
    omega
theorem Q_mg {v : Int32} (h : VOK v) : Mg 132 (Qv v) := by
  obtain ⟨n, hn, rfl | rfl⟩ := VOK_cases h
  · exact (q_tab n hn).1
  · exact (q_tab n hn).2
theorem Sh_mg {a : UInt32} (h : Sh a) : Mg 128 a := by unfold Sh at h; unfold Mg; omega
def lt4 (vl : Nat → Int32) (c : Nat) (sh : Nat → UInt32) : Nat → UInt32 := fun x => FP.fmul (Qv (vl (4 * x + c))) (sh x)
theorem lt4_mg {v : Int32} {s : UInt32} (h : VOK v) (hs : Sh s) : Mg 134 (FP.fmul (Qv v) s) := by
  have := FP.Core.fmul_mag (a := Qv v) (b := s) (Ka := 132) (Kb := 128) (Q_mg h) (Sh_mg hs) (by omega) (by omega)
  exact this
theorem Mg_add {a b : UInt32} {K : Nat} (ha : Mg K a) (hb : Mg K b) (hK : K ≤ 253) : Mg (K + 2) (FP.fadd a b) ∧ fok (FP.fadd a b) := by
  have := FP.Core.fadd_mag (a := a) (b := b) (K := K) ha hb (by omega)
  exact ⟨this, fok_mg this (by omega)⟩
theorem Mg.up {a : UInt32} {K K' : Nat} (h : Mg K a) (hK : K ≤ K') : Mg K' a := Nat.lt_of_lt_of_le h (Nat.mul_le_mul_right _ hK)
theorem p_limb_L {vl : Nat → Int32} {sh : Nat → UInt32} {S c : Nat} (hS : S ≤ 6) (hc : c < 4) (hv : ∀ j, j < 4 * S → VOK (vl j)) (hsh : ∀ s, s < 6 → Sh (sh s)) : ∀ (k n x : Nat) (s : UInt32), k = S - x → x ≤ S → k < n → Mg (134 + 2 * x) s → f_X1_limbOf_L5 (nI S) (nI c) vl sh n (nI x) s = some (nI S, fs (lt4 vl c sh) k x s) ∧ Mg (134 + 2 * S) (fs (lt4 vl c sh) k x s) := by
  intro k
  induction k with
  | zero =>
    intro n x s hk hx hn hs
    obtain ⟨n, rfl⟩ : ∃ m, n = m + 1 := ⟨n - 1, by omega⟩
    have : x = S := by omega
    subst this
    unfold f_X1_limbOf_L5
    rw [if_pos (Int32.le_refl _)]
    exact ⟨rfl, hs⟩
  | succ k ih =>
    intro n x s hk hx hn hs
    obtain ⟨n, rfl⟩ : ∃ m, n = m + 1 := ⟨n - 1, by omega⟩
    have hq := Q_mg (hv (4 * x + c) (by omega))
    have ht := lt4_mg (hv (4 * x + c) (by omega)) (hsh x (by omega))
    obtain ⟨a1, a2⟩ := Mg_add hs (ht.up (show 134 ≤ 134 + 2 * x by omega)) (by omega)
    unfold f_X1_limbOf_L5
    rw [if_neg (show ¬ nI S ≤ nI x by rw [le_nI (by omega) (by omega)]; omega)]
    simp (disch := omega) only [l4, mu_nI, ad_nI, cl_nI, gd_iok, ad1]
    simp only [show x * 4 + c = 4 * x + c by omega]
    rw [gd_t (show fok (FP.fdiv (FP.i2f (vl (4 * x + c))) 1082130432) from fok_mg hq (by omega)), gd_t (show fok (FP.fmul (FP.fdiv (FP.i2f (vl (4 * x + c))) 1082130432) (sh x)) from fok_mg ht (by omega)), gd_t (show fok (FP.fadd s (FP.fmul (FP.fdiv (FP.i2f (vl (4 * x + c))) 1082130432) (sh x))) from a2)]
    exact ih n (x + 1) _ (by omega) (by omega) (by omega) a1
theorem p6_limb_L {vl : Nat → Int32} {sh mf : Nat → UInt32} {S c a : Nat} (ha : a < 2) (hS : S ≤ 6) (hc : c < 4) (hv : ∀ j, j < 4 * S → VOK (vl j)) (hsh : ∀ s, s < 6 → Sh (sh s)) (hmf : ∀ s, s < 6 → mf (6 * a + s) = sh s) : ∀ (k n x : Nat) (s : UInt32), k = S - x → x ≤ S → k < n → Mg (134 + 2 * x) s → f_X6_limbOf_L5 (nI S) (nI c) vl (nI a) mf n (nI x) s = some (nI S, fs (lt4 vl c sh) k x s) := by
  intro k
  induction k with
  | zero =>
    intro n x s hk hx hn hs
    obtain ⟨n, rfl⟩ : ∃ m, n = m + 1 := ⟨n - 1, by omega⟩
    have : x = S := by omega
    subst this
    unfold f_X6_limbOf_L5
    rw [if_pos (Int32.le_refl _)]
    rfl
  | succ k ih =>
    intro n x s hk hx hn hs
    obtain ⟨n, rfl⟩ : ∃ m, n = m + 1 := ⟨n - 1, by omega⟩
    have hq := Q_mg (hv (4 * x + c) (by omega))
    have ht := lt4_mg (hv (4 * x + c) (by omega)) (hsh x (by omega))
    obtain ⟨a1, a2⟩ := Mg_add hs (ht.up (show 134 ≤ 134 + 2 * x by omega)) (by omega)
    unfold f_X6_limbOf_L5
    rw [if_neg (show ¬ nI S ≤ nI x by rw [le_nI (by omega) (by omega)]; omega)]
    simp (disch := omega) only [l4, l6, mu_nI, ad_nI, cl_nI, gd_iok, ad1]
    rw [hmf x (by omega), gd_t (show fok (FP.fdiv (FP.i2f (vl (4 * x + c))) 1082130432) from fok_mg hq (by omega)), gd_t (show fok (FP.fmul (FP.fdiv (FP.i2f (vl (4 * x + c))) 1082130432) (sh x)) from fok_mg ht (by omega)), gd_t (show fok (FP.fadd s (FP.fmul (FP.fdiv (FP.i2f (vl (4 * x + c))) 1082130432) (sh x))) from a2)]
    exact ih n (x + 1) _ (by omega) (by omega) (by omega) a1
theorem Mg_0 : Mg 134 FP.fconst0 := by unfold Mg; decide
