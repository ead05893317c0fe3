/-! ===== bits of a double ===== -/
abbrev ud (n : Nat) : Nat := FP.Core.unitsOf FP.Core.b64 n
theorem ud_eq (n : Nat) : ud n = if n < 4503599627370496 then n else (4503599627370496 + n % 4503599627370496) * 2 ^ (n / 4503599627370496 - 1) := by
  unfold ud FP.Core.unitsOf
  rw [show FP.Core.b64.tails = 4503599627370496 from by decide]
theorem Zd.of {x : UInt64} (h : x.toNat % 2 ^ 63 < 9218868437227405312) : Zd x (decide (2 ^ 63 ≤ x.toNat)) (ud (x.toNat % 2 ^ 63)) := by
  have h1 : FP.Core.val64 x ≠ .nan := (FP.Core.ne_nan x).mpr (by omega)
  exact ⟨h1, FP.Core.sgn_bits h1, FP.Core.zmag_bits h1⟩
theorem zd_1 : Zd FP.dconst1 false (2 ^ 1074) := by unfold Zd; decide +kernel
theorem zd_0 : Zd FP.dconst0 false 0 := by unfold Zd; decide +kernel
theorem zd_2 : Zd 4611686018427387904 false (2 ^ 1075) := by unfold Zd; decide +kernel
theorem zd_m : Zd 4841369599423283200 false (2 ^ 1126) := by unfold Zd; decide +kernel
theorem Zd.dbl {a : UInt64} {m j : Nat} (ha : Zd a false (m * 2 ^ j)) (hm : m < 2 ^ 53) (hj : j ≤ 1100) : Zd (FP.dmul a 4611686018427387904) false (m * 2 ^ (j + 1)) := by
  refine Zd.mul ha zd_2 (p_lt hm hj (by omega)) (Nat.pow_lt_pow_right (by decide) (by omega)) hm (by omega) ?_
  rw [Nat.mul_assoc, Nat.mul_assoc, ← Nat.pow_add, ← Nat.pow_add, show j + 1075 = j + 1 + 1074 by omega]
theorem l_m1 : ∀ k, k < 2000 → Int64.ofNat (k + 1) - 1 = Int64.ofNat k := by decide +kernel
theorem l_p1 : ∀ k, k < 2000 → Int64.ofNat k + 1 = Int64.ofNat (k + 1) := by decide +kernel
theorem two1074 : (2 : Nat) ^ 1074 = 2 ^ 52 * 2 ^ 1022 := by rw [← Nat.pow_add]
theorem db_L21 {m : Nat} (h1 : 2 ^ 52 ≤ m) (h2 : m < 2 ^ 53) : ∀ (k n x e j : Nat) (a : UInt64), k = 1022 - j → j ≤ 1022 → x + k < 1022 → k < n → e + k < 2000 → Zd a false (m * 2 ^ j) → ∃ a', f_X5_doubleBits_L21 n (nI x) (Int64.ofNat (e + k)) a = some (nI (x + k), Int64.ofNat e, a') ∧ Zd a' false (m * 2 ^ 1022) := by
  intro k
  induction k with
  | zero =>
    intro n x e j a hk hj hx hn he ha
    obtain ⟨n, rfl⟩ : ∃ q, n = q + 1 := ⟨n - 1, by omega⟩
    have : j = 1022 := by omega
    subst this
    unfold f_X5_doubleBits_L21
    have hge : 0 ≤ Op.cmpValue (FP.dcmp a FP.dconst1) .g := (Zd.ge ha zd_1).mpr (by
      rw [two1074]
      exact Nat.mul_le_mul_right _ h1)
    rw [if_pos hge]
    exact ⟨a, by split <;> rfl, ha⟩
  | succ k ih =>
    intro n x e j a hk hj hx hn he ha
    obtain ⟨n, rfl⟩ : ∃ q, n = q + 1 := ⟨n - 1, by omega⟩
    unfold f_X5_doubleBits_L21
    have hge : ¬ 0 ≤ Op.cmpValue (FP.dcmp a FP.dconst1) .g := fun z => by
      have := (Zd.ge ha zd_1).mp z
      exact absurd (p_lt (R := 1074) h2 (show j ≤ 1021 by omega) (by omega)) (Nat.not_lt.mpr this)
    have hd := ha.dbl h2 (by omega)
    rw [if_neg (show ¬ (1022 : Int32) ≤ nI x by show ¬ nI 1022 ≤ nI x; rw [le_nI (by omega) (by omega)]; omega), if_neg hge, gd_t hd.ok, ad1, show e + (k + 1) = e + k + 1 by omega, l_m1 _ (by omega)]
    obtain ⟨a', e1, e2⟩ := ih n (x + 1) e (j + 1) _ (by omega) (by omega) (by omega) (by omega) (by omega) hd
    exact ⟨a', by rw [e1, show x + 1 + k = x + (k + 1) by omega], e2⟩
theorem db_L21s {m j : Nat} (h1 : 2 ^ 52 ≤ m) (hj : 1022 ≤ j) {a : UInt64} (ha : Zd a false (m * 2 ^ j)) (n : Nat) (e : Int64) : f_X5_doubleBits_L21 (n + 1) (nI 0) e a = some (nI 0, e, a) := by
  unfold f_X5_doubleBits_L21
  have hge : 0 ≤ Op.cmpValue (FP.dcmp a FP.dconst1) .g := (Zd.ge ha zd_1).mpr (by
    rw [two1074]
    exact Nat.mul_le_mul h1 (Nat.pow_le_pow_right (by decide) hj))
  rw [if_pos hge, if_neg (show ¬ (1022 : Int32) ≤ nI 0 by decide)]
theorem db_L56 {m : Nat} (h1 : 2 ^ 52 ≤ m) (h2 : m < 2 ^ 53) : ∀ (k n x e : Nat) (a : UInt64), x + k < 1023 → k < n → k ≤ 100 → e + k < 2000 → Zd a false (m * 2 ^ (1022 + k)) → ∃ a', f_X5_doubleBits_L56 n (nI x) (Int64.ofNat e) a = some (nI (x + k), Int64.ofNat (e + k), a') ∧ Zd a' false (m * 2 ^ 1022) := by
  intro k
  induction k with
  | zero =>
    intro n x e a hx hn hk he ha
    obtain ⟨n, rfl⟩ : ∃ q, n = q + 1 := ⟨n - 1, by omega⟩
    unfold f_X5_doubleBits_L56
    have hlt : Op.cmpValue (FP.dcmp a 4611686018427387904) .l < 0 := (Zd.lt ha zd_2).mpr (p_lt h2 (Nat.le_refl _) (by omega))
    rw [if_pos hlt, if_neg (show ¬ (1023 : Int32) ≤ nI x by show ¬ nI 1023 ≤ nI x; rw [le_nI (by omega) (by omega)]; omega)]
    exact ⟨a, rfl, ha⟩
  | succ k ih =>
    intro n x e a hx hn hk he ha
    obtain ⟨n, rfl⟩ : ∃ q, n = q + 1 := ⟨n - 1, by omega⟩
    unfold f_X5_doubleBits_L56
    have hlt : ¬ Op.cmpValue (FP.dcmp a 4611686018427387904) .l < 0 := fun z => by
      have := (Zd.lt ha zd_2).mp z
      have h3 : 2 ^ 1075 ≤ m * 2 ^ (1022 + (k + 1)) := by
        calc 2 ^ 1075 = 2 ^ 52 * 2 ^ 1023 := by rw [← Nat.pow_add]
          _ ≤ m * 2 ^ (1022 + (k + 1)) := Nat.mul_le_mul h1 (Nat.pow_le_pow_right (by decide) (by omega))
      exact absurd this (Nat.not_lt.mpr h3)
    have hd : Zd (FP.ddiv a 4611686018427387904) false (m * 2 ^ (1022 + k)) := Zd.half (j := 1022 + k) ha (p_lt (Q := 1123) h2 (by omega) (by omega)) h2 (by omega)
    rw [if_neg (show ¬ (1023 : Int32) ≤ nI x by show ¬ nI 1023 ≤ nI x; rw [le_nI (by omega) (by omega)]; omega), if_neg hlt, gd_t hd.ok, ad1, l_p1 _ (by omega)]
    obtain ⟨a', e1, e2⟩ := ih n (x + 1) (e + 1) _ (by omega) (by omega) (by omega) (by omega) hd
    exact ⟨a', by rw [e1, show x + 1 + k = x + (k + 1) by omega, show e + 1 + k = e + (k + 1) by omega], e2⟩
theorem Zd.int {a : UInt64} {M : Nat} (h : Zd a false (M * 2 ^ 1074)) (hM : M < 2 ^ 53) : FP.d2l a = Int64.ofNat M := by
  have e := FP.Core.d2l_val h.1
  rw [h.2.1, h.2.2, show FP.Core.one64 = 2 ^ 1074 from rfl, Nat.mul_div_cancel _ (Nat.two_pow_pos _)] at e
  have e2 : (FP.d2l a).toInt = max (-2 ^ 63) (min (2 ^ 63 - 1) ((M : Nat) : Int)) := e
  apply Int64.toInt_inj.mp
  rw [e2, Int64.toInt_ofNat_of_lt (by omega)]
  omega
theorem shl_tab2 : ∀ e, e < 2047 → (Int64.ofNat e <<< ((52 : Int32).toInt64 &&& 63)) = Int64.ofNat (e * 4503599627370496) := by decide +kernel
/-- what the class makes of the bits of a double that isn't below zero -/
theorem db_fin {a : UInt64} (lo : 40 * 4503599627370496 ≤ a.toNat) (hi : a.toNat < 1100 * 4503599627370496) : ∃ q5 e6 q7 q11 q12 q13, f_X5_doubleBits_L21 1000 0 1023 a = some (q5, e6, q7) ∧ f_X5_doubleBits_L56 1000 0 e6 q7 = some (q11, q12, q13) ∧ dok (FP.dsub q13 FP.dconst1) ∧ dok (FP.dmul (FP.dsub q13 FP.dconst1) 4841369599423283200) ∧ (q12 <<< ((52 : Int32).toInt64 &&& 63)) + FP.d2l (FP.dmul (FP.dsub q13 FP.dconst1) 4841369599423283200) = Int64.ofNat a.toNat := by
  have hm63 : a.toNat % 2 ^ 63 = a.toNat := Nat.mod_eq_of_lt (by omega)
  have hz := Zd.of (x := a) (by rw [hm63]; omega)
  rw [decide_eq_false (by omega), hm63, ud_eq, if_neg (by omega)] at hz
  generalize a.toNat = A at *
  have hM : A % 4503599627370496 < 4503599627370496 := Nat.mod_lt _ (by omega)
  have hE := Nat.div_add_mod A 4503599627370496
  generalize A % 4503599627370496 = M at *
  generalize A / 4503599627370496 = E at *
  have h1 : 2 ^ 52 ≤ 4503599627370496 + M := by omega
  have h2 : 4503599627370496 + M < 2 ^ 53 := by omega
  have key : ∃ q5 e6 q7 q11 q13, f_X5_doubleBits_L21 1000 0 1023 a = some (q5, e6, q7) ∧ f_X5_doubleBits_L56 1000 0 e6 q7 = some (q11, Int64.ofNat E, q13) ∧ Zd q13 false ((4503599627370496 + M) * 2 ^ 1022) := by
    by_cases hE2 : E ≤ 1023
    · obtain ⟨a', e1, e2⟩ := db_L21 h1 h2 (1023 - E) 1000 0 E (E - 1) a (by omega) (by omega) (by omega) (by omega) (by omega) hz
      obtain ⟨a'', e3, e4⟩ := db_L56 h1 h2 0 1000 0 E a' (by omega) (by omega) (by omega) (by omega) e2
      have e1' : f_X5_doubleBits_L21 1000 0 1023 a = some (nI (0 + (1023 - E)), Int64.ofNat E, a') := by
        rw [← e1, show E + (1023 - E) = 1023 by omega]
        rfl
      exact ⟨_, _, _, _, a'', e1', e3, e4⟩
    · have e1' : f_X5_doubleBits_L21 1000 0 1023 a = some (nI 0, Int64.ofNat 1023, a) := db_L21s h1 (j := E - 1) (by omega) hz 999 1023
      obtain ⟨a'', e3, e4⟩ := db_L56 h1 h2 (E - 1023) 1000 0 1023 a (by omega) (by omega) (by omega) (by omega) (by rw [show 1022 + (E - 1023) = E - 1 by omega]; exact hz)
      rw [show 1023 + (E - 1023) = E by omega] at e3
      exact ⟨_, _, _, _, a'', e1', e3, e4⟩
  obtain ⟨q5, e6, q7, q11, q13, e1, e2, e3⟩ := key
  have h4 := Zd.sub e3 zd_1 (p_lt h2 (Nat.le_refl _) (by omega)) (Nat.pow_lt_pow_right (by decide) (by omega)) (show M < 2 ^ 53 by omega) (show 1022 ≤ 2045 by omega) (by
    rw [Nat.add_mul, two1074])
  have h5 : Zd (FP.dmul (FP.dsub q13 FP.dconst1) 4841369599423283200) false (M * 2 ^ 1074) := by
    refine Zd.mul h4 zd_m (p_lt (P := 53) (by omega) (Nat.le_refl _) (by omega)) (Nat.pow_lt_pow_right (by decide) (by omega)) (by omega) (by omega) ?_
    rw [Nat.mul_assoc, Nat.mul_assoc, ← Nat.pow_add, ← Nat.pow_add]
  refine ⟨q5, e6, q7, q11, Int64.ofNat E, q13, e1, e2, h4.ok, h5.ok, ?_⟩
  rw [h5.int (by omega), shl_tab2 E (by omega), ← Int64.ofNat_add, show E * 4503599627370496 + M = A by omega]
theorem u_l (x : UInt64) : x.toInt64 = Int64.ofNat x.toNat := by
  have e : UInt64.ofNat x.toNat = x := UInt64.ofNat_toNat
  conv => lhs; rw [← e]
  rfl
theorem or_sign {X : Nat} (h : X < 2 ^ 63) : Int64.ofNat X ||| (-9223372036854775808) = Int64.ofNat (2 ^ 63 + X) := by
  apply Int64.toBitVec_inj.1
  apply BitVec.eq_of_toNat_eq
  have e1 : (Int64.ofNat X ||| (-9223372036854775808)).toBitVec = (Int64.ofNat X).toBitVec ||| (-9223372036854775808 : Int64).toBitVec := rfl
  rw [e1, BitVec.toNat_or]
  have e2 : (Int64.ofNat X).toBitVec.toNat = X % 2 ^ 64 := rfl
  have e3 : (-9223372036854775808 : Int64).toBitVec.toNat = 2 ^ 63 := by decide
  have e4 : (Int64.ofNat (2 ^ 63 + X)).toBitVec.toNat = (2 ^ 63 + X) % 2 ^ 64 := rfl
  rw [e2, e3, e4, Nat.mod_eq_of_lt (by omega), Nat.mod_eq_of_lt (by omega), Nat.or_comm]
  have := Nat.two_pow_add_eq_or_of_lt (i := 63) h 1
  rw [Nat.mul_one] at this
  exact this.symm
theorem ud_inj {m k : Nat} (h : ud m = ud k) : m = k := by
  have h1 := (FP.Core.unitsOf_le_iff (f := FP.Core.b64) (m := m) (k := k)).mp (Nat.le_of_eq h)
  have h2 := (FP.Core.unitsOf_le_iff (f := FP.Core.b64) (m := k) (k := m)).mp (Nat.le_of_eq h.symm)
  omega
theorem q_doubleBits {x : UInt64} (lo : 40 * 4503599627370496 ≤ x.toNat % 2 ^ 63) (hi : x.toNat % 2 ^ 63 < 1100 * 4503599627370496) : f_X5_doubleBits x = some (x.toInt64) := by
  have hz := Zd.of (x := x) (by omega)
  unfold f_X5_doubleBits
  have hlt := x.toNat_lt
  by_cases hs : 2 ^ 63 ≤ x.toNat
  · rw [decide_eq_true hs] at hz
    have hpos : 0 < ud (x.toNat % 2 ^ 63) := by
      have := (FP.Core.unitsOf_lt_iff (f := FP.Core.b64) (m := 0) (k := x.toNat % 2 ^ 63)).mpr (by omega)
      rw [FP.Core.unitsOf_zero] at this
      exact this
    have hneg : ¬ 0 ≤ Op.cmpValue (FP.dcmp x FP.dconst0) .g := by
      have h3 := FP.Core.dcmp_lt.mpr ⟨hz.1, zd_0.1, by
        rw [zd_0.zv]
        unfold FP.Core.zval
        rw [hz.2.1, hz.2.2]
        show -((ud (x.toNat % 2 ^ 63) : Nat) : Int) < ((0 : Nat) : Int)
        omega⟩
      have h4 : FP.dcmp x FP.dconst0 = some .lt := h3
      rw [h4]
      decide
    rw [if_neg hneg]
    have hn : Zd (FP.dneg x) false (ud (x.toNat % 2 ^ 63)) := by
      obtain ⟨c, q, hv, hf, e1⟩ := hz.fin (by
        have h5 := (FP.Core.unitsOf_lt_iff (f := FP.Core.b64)).mpr hi
        rw [show 1100 * 4503599627370496 = 1100 * FP.Core.b64.tails from by decide, FP.Core.unitsOf_start (by omega), show FP.Core.b64.tails = 2 ^ 52 from by decide, ← Nat.pow_add] at h5
        exact Nat.lt_of_lt_of_le h5 (Nat.pow_le_pow_right (by decide) (by omega)))
      have e2 : FP.Core.val64 (FP.dneg x) = .fin false c q := by rw [FP.val64_dneg, hv]; rfl
      refine ⟨?_, ?_, ?_⟩
      · rw [e2]; exact FP.Core.Datum.noConfusion
      · rw [e2]; rfl
      · rw [e2]; exact e1
    have hb : (FP.dneg x).toNat = x.toNat % 2 ^ 63 := by
      have h5 := FP.Core.sgn_bits hn.1
      rw [hn.2.1] at h5
      have h6 := of_decide_eq_false h5.symm
      have h7 := FP.Core.zmag_bits hn.1
      rw [hn.2.2] at h7
      have h8 := ud_inj h7
      rw [h8, Nat.mod_eq_of_lt (by omega)]
    obtain ⟨q5, e6, q7, q11, q12, q13, e1, e2, e3, e4, e5⟩ := db_fin (a := FP.dneg x) (by rw [hb]; exact lo) (by rw [hb]; exact hi)
    rw [e1]
    simp only [Option.bind_some]
    rw [e2]
    simp only [Option.bind_some]
    rw [gd_t e3, gd_t e4, e5, hb, or_sign (Nat.mod_lt _ (by decide)), u_l]
    congr 2
    omega
  · rw [decide_eq_false hs] at hz
    have hge : 0 ≤ Op.cmpValue (FP.dcmp x FP.dconst0) .g := (Zd.ge hz zd_0).mpr (Nat.zero_le _)
    have hm : x.toNat % 2 ^ 63 = x.toNat := Nat.mod_eq_of_lt (by omega)
    rw [hm] at lo hi
    obtain ⟨q5, e6, q7, q11, q12, q13, e1, e2, e3, e4, e5⟩ := db_fin lo hi
    rw [if_pos hge, e1]
    simp only [Option.bind_some]
    rw [e2]
    simp only [Option.bind_some]
    rw [gd_t e3, gd_t e4, e5, u_l]
/-- a float made a double -/
theorem zd_f2d {r : UInt32} {s : Bool} {z : Nat} (h : Zf r s z) (hz : z < 2 ^ 200) : Zd (FP.f2d r) s (z * 2 ^ 925) := by
  obtain ⟨c, q, hv, hf, e1⟩ := h.fin hz
  have hr := FP.Core.val64_f2d r
  rw [hv] at hr
  have hn : FP.fIsNaN r = false := (FP.Core.notNaN_iff32 r).mpr h.1
  have hr2 : FP.Core.val64 (FP.f2d r) = FP.Core.roundRatio FP.Core.b64 s c 1 q := by
    rw [FP.f2d_core hn]
    exact hr
  obtain ⟨g1, g2, g3, -⟩ := hf
  rw [FP.Core.qmin_b32] at g2
  rw [qx32] at g3
  have e2 : c * 2 ^ (q - FP.Core.b32.qmin).toNat = z := e1
  rw [FP.Core.qmin_b32] at e2
  have e3 : z * 2 ^ 925 = c * 2 ^ ((q - -149).toNat + 925) := by rw [← e2, Nat.mul_assoc, ← Nat.pow_add]
  refine ⟨?_, ?_, ?_⟩
  · rw [hr2]; exact FP.Core.roundRatio_ne_nan _ _ _ _ _
  · rw [hr2]; exact FP.Core.sgn_roundRatio _ _ _ _ _
  · rw [hr2, e3]
    refine rnd_mag FP.Core.good_b64 (e0 := FP.Core.b64.qmin) (by decide) (Nat.lt_of_lt_of_le g1 (by decide)) (by rw [FP.Core.qmin_b64, qx64]; omega) (Int.le_refl _) (by rw [FP.Core.qmin_b64]; omega) ?_
    unfold FP.Core.inUnits
    rw [Int.sub_self, Int.toNat_zero, Nat.pow_zero, Nat.mul_one, Nat.mul_one, FP.Core.qmin_b64, show (q - -1074).toNat = (q - -149).toNat + 925 by omega]
theorem Mg.fin {r : UInt32} (h : Mg 150 r) : FP.Core.val32 r ≠ .nan ∧ FP.Core.zmag FP.Core.b32 (FP.Core.val32 r) = uo (r.toNat % 2 ^ 31) ∧ uo (r.toNat % 2 ^ 31) < 2 ^ 172 := by
  unfold Mg at h
  have h1 : FP.Core.val32 r ≠ .nan := (FP.Core.ne_nan32 r).mpr (by omega)
  refine ⟨h1, FP.Core.zmag_toNat32 h1, ?_⟩
  have h5 := (FP.Core.unitsOf_lt_iff (f := FP.Core.b32)).mpr h
  rw [show 150 * 2 ^ 23 = 150 * FP.Core.b32.tails from by decide, FP.Core.unitsOf_start (by omega), show FP.Core.b32.tails = 2 ^ 23 from by decide, ← Nat.pow_add] at h5
  exact h5
/-- the bits of a limb that isn't zero -/
theorem q_dbl {r : UInt32} (h : Mg 150 r) (h0 : r.toNat % 2 ^ 31 ≠ 0) : dok (FP.f2d r) ∧ f_X5_doubleBits (FP.f2d r) = some (FP.f2d r).toInt64 := by
  obtain ⟨h1, h2, h3⟩ := h.fin
  have hz : Zf r (FP.Core.sgn (FP.Core.val32 r)) (uo (r.toNat % 2 ^ 31)) := ⟨h1, rfl, h2⟩
  have hd := zd_f2d hz (Nat.lt_of_lt_of_le h3 (Nat.pow_le_pow_right (by decide) (by omega)))
  have h4 := FP.Core.zmag_bits hd.1
  rw [hd.2.2] at h4
  have hpos : 1 ≤ uo (r.toNat % 2 ^ 31) := by
    have := (FP.Core.unitsOf_lt_iff (f := FP.Core.b32) (m := 0) (k := r.toNat % 2 ^ 31)).mpr (by omega)
    rw [FP.Core.unitsOf_zero] at this
    exact this
  refine ⟨hd.ok, q_doubleBits ?_ ?_⟩
  · apply (FP.Core.unitsOf_le_iff (f := FP.Core.b64)).mp
    rw [← h4, show 40 * 4503599627370496 = 40 * FP.Core.b64.tails from by decide, FP.Core.unitsOf_start (by omega), show FP.Core.b64.tails = 2 ^ 52 from by decide, ← Nat.pow_add]
    calc 2 ^ (52 + (40 - 1)) ≤ 1 * 2 ^ 925 := by rw [Nat.one_mul]; exact Nat.pow_le_pow_right (by decide) (by omega)
      _ ≤ uo (r.toNat % 2 ^ 31) * 2 ^ 925 := Nat.mul_le_mul_right _ hpos
  · apply (FP.Core.unitsOf_lt_iff (f := FP.Core.b64)).mp
    rw [← h4, show 1100 * 4503599627370496 = 1100 * FP.Core.b64.tails from by decide, FP.Core.unitsOf_start (by omega), show FP.Core.b64.tails = 2 ^ 52 from by decide, ← Nat.pow_add]
    calc uo (r.toNat % 2 ^ 31) * 2 ^ 925 < 2 ^ 172 * 2 ^ 925 := Nat.mul_lt_mul_of_pos_right h3 (Nat.two_pow_pos _)
      _ = 2 ^ (172 + 925) := (Nat.pow_add ..).symm
      _ ≤ 2 ^ (52 + (1100 - 1)) := Nat.pow_le_pow_right (by decide) (by omega)
theorem q6_dbl {x : UInt64} (h : dok x) : f_Jxe99ae_doubleToLongBits_ccdee x = some x.toInt64 := by
  have e : FP.dcmp x x = some .eq := FP.Core.dcmp_self ((dok_iff x).mp h)
  unfold f_Jxe99ae_doubleToLongBits_ccdee f_Jxe99ae_isNaN_b9ae7
  rw [e, if_pos (show Op.cmpValue (some .eq) .l = 0 from rfl)]
  simp only [Option.bind_some, if_true]
