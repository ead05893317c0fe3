/-! ===== floats: what the shares, the limbs and their bits need ===== -/
theorem fok_iff (r : UInt32) : fok r ↔ FP.Core.val32 r ≠ .nan := by
  rw [FP.Core.ne_nan32]
  show r &&& 0x7fffffff ≤ 0x7f800000 ↔ _
  rw [UInt32.le_iff_toNat_le, UInt32.toNat_and]
  show r.toNat &&& (2 ^ 31 - 1) ≤ 2139095040 ↔ _
  rw [Nat.and_two_pow_sub_one_eq_mod]
theorem dok_iff (r : UInt64) : dok r ↔ FP.Core.val64 r ≠ .nan := by
  rw [FP.Core.ne_nan]
  show r &&& 0x7fffffffffffffff ≤ 0x7ff0000000000000 ↔ _
  rw [UInt64.le_iff_toNat_le, UInt64.toNat_and]
  show r.toNat &&& (2 ^ 63 - 1) ≤ 9218868437227405312 ↔ _
  rw [Nat.and_two_pow_sub_one_eq_mod]
/-- the number of least units that a float's bits stand for -/
abbrev uo (n : Nat) : Nat := FP.Core.unitsOf FP.Core.b32 n
theorem uo_le {m k : Nat} : uo m ≤ uo k ↔ m ≤ k := FP.Core.unitsOf_le_iff
/-- a finite float that isn't below zero: neither sign -/
theorem nn_val {a : UInt32} (h : a.toNat < 2139095040) : ∃ c q, FP.Core.val32 a = .fin false c q ∧ FP.Core.fits FP.Core.b32 (.fin false c q) ∧ FP.Core.zmag FP.Core.b32 (.fin false c q) = uo a.toNat := by
  have hm : a.toNat % 2 ^ 31 = a.toNat := Nat.mod_eq_of_lt (by omega)
  obtain ⟨s, c, q, hv⟩ := (FP.Core.fin_bits32 a).mpr (by rw [hm]; exact h)
  have hs := (FP.Core.sign_bits32 (a := a) (s := s) (Or.inl ⟨c, q, hv⟩))
  have hsf : s = false := by
    cases s with
    | false => rfl
    | true => exact absurd (hs.mp rfl) (by omega)
  subst hsf
  have hz := FP.Core.zmag_toNat32 (a := a) (by rw [hv]; exact FP.Core.Datum.noConfusion)
  rw [hm, hv] at hz
  exact ⟨c, q, hv, hv ▸ FP.Core.val32_fits a, hz⟩
/-- a float with the sign + that is no NaN: its bits -/
theorem nn_of {a : UInt32} (hn : FP.Core.val32 a ≠ .nan) (hs : FP.Core.sgn (FP.Core.val32 a) = false) : a.toNat < 2 ^ 31 := by
  rw [FP.Core.sgn_bits32 hn] at hs
  have := of_decide_eq_false hs
  omega
theorem zv_nn {a : UInt32} (hn : FP.Core.val32 a ≠ .nan) (hs : FP.Core.sgn (FP.Core.val32 a) = false) : FP.Core.zval FP.Core.b32 (FP.Core.val32 a) = (uo a.toNat : Int) := by
  have h1 := nn_of hn hs
  unfold FP.Core.zval
  rw [hs, FP.Core.zmag_toNat32 hn, Nat.mod_eq_of_lt h1]
  rfl
theorem zv_of {a : UInt32} (h : a.toNat < 2139095040) : FP.Core.zval FP.Core.b32 (FP.Core.val32 a) = (uo a.toNat : Int) := by
  obtain ⟨c, q, hv, -, -⟩ := nn_val h
  exact zv_nn (by rw [hv]; exact FP.Core.Datum.noConfusion) (by rw [hv]; rfl)
theorem uo_one : uo 1065353216 = 2 ^ 149 := by decide +kernel
/-- products -/
theorem fmul_nn {a b : UInt32} (ha : a.toNat < 2139095040) (hb : b.toNat < 2139095040) : FP.Core.val32 (FP.fmul a b) ≠ .nan ∧ FP.Core.sgn (FP.Core.val32 (FP.fmul a b)) = false := by
  obtain ⟨c, q, hv, hf, hz⟩ := nn_val ha
  obtain ⟨d, r, hw, hg, hy⟩ := nn_val hb
  have h := FP.Core.val32_fmul a b
  rw [hv, hw] at h
  show FP.Core.val32 (FP.Core.fmul a b) ≠ .nan ∧ _
  have h2 : FP.Core.val32 (FP.Core.fmul a b) = FP.Core.roundRatio FP.Core.b32 (false != false) (c * d) 1 (q + r) := h
  constructor
  · rw [h2]; exact FP.Core.roundRatio_ne_nan _ _ _ _ _
  · show FP.Core.sgn (FP.Core.val32 (FP.Core.fmul a b)) = false
    rw [h2, FP.Core.sgn_roundRatio]; rfl
theorem fmul_le {a b : UInt32} (ha : a.toNat < 2139095040) (hb : b.toNat ≤ 1065353216) : (FP.fmul a b).toNat ≤ a.toNat := by
  obtain ⟨hn, hs⟩ := fmul_nn ha (show b.toNat < 2139095040 by omega)
  have h0 := zv_nn hn hs
  obtain ⟨c, q, hv, hf, hz⟩ := nn_val ha
  obtain ⟨d, r, hw, hg, hy⟩ := nn_val (show b.toNat < 2139095040 by omega)
  obtain ⟨p1, p2, p3⟩ := FP.Core.product_units hf hg
  have hm := FP.Core.val32_fmul a b
  rw [hv, hw, p1] at hm
  have hle := FP.Core.zval_round_le FP.Core.good_b32 (s := (false != false)) (c := c * d) (q := q + r) (e0 := 2 * FP.Core.b32.qmin) (V := FP.Core.val32 a) (FP.Core.val32_fits a) (by rw [hv]; exact FP.Core.Datum.noConfusion) (by rw [FP.Core.qmin_b32]; decide) p2 (by
    rw [p3, zv_of ha, hz, hy]
    have h1 : uo b.toNat ≤ 2 ^ 149 := by rw [← uo_one]; exact uo_le.mpr hb
    show ((uo a.toNat * uo b.toNat : Nat) : Int) ≤ (uo a.toNat : Int) * ((2 ^ (FP.Core.b32.qmin - 2 * FP.Core.b32.qmin).toNat : Nat) : Int)
    rw [FP.Core.qmin_b32]
    show ((uo a.toNat * uo b.toNat : Nat) : Int) ≤ (uo a.toNat : Int) * ((2 ^ 149 : Nat) : Int)
    exact_mod_cast Nat.mul_le_mul_left _ h1)
  rw [← hm] at hle
  have hle2 : FP.Core.zval FP.Core.b32 (FP.Core.val32 (FP.fmul a b)) ≤ FP.Core.zval FP.Core.b32 (FP.Core.val32 a) := hle
  rw [h0, zv_of ha] at hle2
  exact uo_le.mp (by exact_mod_cast hle2)
/-- sums -/
theorem fadd_nn {a b : UInt32} (ha : a.toNat < 2139095040) (hb : b.toNat < 2139095040) : FP.Core.val32 (FP.fadd a b) ≠ .nan ∧ FP.Core.sgn (FP.Core.val32 (FP.fadd a b)) = false := by
  obtain ⟨c, q, hv, hf, hz⟩ := nn_val ha
  obtain ⟨d, r, hw, hg, hy⟩ := nn_val hb
  have h := FP.Core.val32_fadd a b
  rw [hv, hw] at h
  have hsg : FP.Core.sumSign false false (FP.Core.sumUnits false c q false d r (min q r)) = false := by
    unfold FP.Core.sumSign
    split
    · rfl
    · apply decide_eq_false
      unfold FP.Core.sumUnits FP.Core.signed
      simp
      omega
  have h2 : FP.Core.val32 (FP.Core.fadd a b) = FP.Core.roundRatio FP.Core.b32 (FP.Core.sumSign false false (FP.Core.sumUnits false c q false d r (min q r))) (FP.Core.sumUnits false c q false d r (min q r)).natAbs 1 (min q r) := h
  constructor
  · show FP.Core.val32 (FP.Core.fadd a b) ≠ .nan
    rw [h2]; exact FP.Core.roundRatio_ne_nan _ _ _ _ _
  · show FP.Core.sgn (FP.Core.val32 (FP.Core.fadd a b)) = false
    rw [h2, FP.Core.sgn_roundRatio, hsg]
theorem fadd_le {a b V : UInt32} (ha : a.toNat < 2139095040) (hb : b.toNat < 2139095040) (hV : V.toNat < 2139095040) (h : uo a.toNat + uo b.toNat ≤ uo V.toNat) : (FP.fadd a b).toNat ≤ V.toNat := by
  obtain ⟨hn, hs⟩ := fadd_nn ha hb
  have h0 := zv_nn hn hs
  obtain ⟨c, q, hv, hf, hz⟩ := nn_val ha
  obtain ⟨d, r, hw, hg, hy⟩ := nn_val hb
  obtain ⟨sg, n, e, p1, p2, p3⟩ := FP.Core.sum_units hf hg
  have hm := FP.Core.val32_fadd a b
  rw [hv, hw, p1] at hm
  have hle := FP.Core.zval_round_le FP.Core.good_b32 (s := sg) (c := n) (q := e) (e0 := FP.Core.b32.qmin) (V := FP.Core.val32 V) (FP.Core.val32_fits V) (by obtain ⟨_, _, hx, _⟩ := nn_val hV; rw [hx]; exact FP.Core.Datum.noConfusion) (Int.le_refl _) p2 (by
    rw [p3, zv_of hV, ← hv, ← hw, zv_of ha, zv_of hb]
    have : (FP.Core.b32.qmin - FP.Core.b32.qmin).toNat = 0 := by simp
    rw [this]
    simp only [Nat.pow_zero]
    have h' : ((uo a.toNat + uo b.toNat : Nat) : Int) ≤ ((uo V.toNat : Nat) : Int) := by exact_mod_cast h
    push_cast at h' ⊢
    omega)
  rw [← hm] at hle
  have hle2 : FP.Core.zval FP.Core.b32 (FP.Core.val32 (FP.fadd a b)) ≤ FP.Core.zval FP.Core.b32 (FP.Core.val32 V) := hle
  rw [h0, zv_of hV] at hle2
  exact uo_le.mp (by exact_mod_cast hle2)
/-- a share: from 0 to 1, never the zero below zero -/
def Sh (a : UInt32) : Prop := a.toNat ≤ 1065353216
theorem Sh.lt {a : UInt32} (h : Sh a) : a.toNat < 2139095040 := by unfold Sh at h; omega
theorem Sh_mul {a b : UInt32} (ha : Sh a) (hb : Sh b) : Sh (FP.fmul a b) ∧ fok (FP.fmul a b) := ⟨Nat.le_trans (fmul_le ha.lt hb) ha, (fok_iff _).mpr (fmul_nn ha.lt hb.lt).1⟩
theorem fmul_le2 {a b : UInt32} (ha : Sh a) (hb : Sh b) : (FP.fmul a b).toNat ≤ b.toNat := by
  have h := fmul_le hb.lt ha
  have e : FP.fmul b a = FP.fmul a b := FP.Core.fmul_comm b a
  rw [e] at h
  exact h
/-- how far a blend is: d of n frames -/
def uu (d n : Nat) : UInt32 := FP.fdiv (FP.i2f (nI d)) (FP.i2f (nI n))
def ur (d n : Nat) : UInt32 := FP.fsub FP.fconst1 (uu d n)
theorem u_tab : ∀ n ∈ [1, 2, 4, 8, 16], ∀ d, d < n + 1 → 1 ≤ d → fok (uu d n) ∧ fok (ur d n) ∧ (uu d n).toNat ≤ 1065353216 ∧ (ur d n).toNat ≤ 1065353216 ∧ uo (uu d n).toNat + uo (ur d n).toNat = uo 1065353216 := by decide +kernel
/-- what becomes of a share in a frame of a blend -/
theorem Sh_blend {b : UInt32} {d n : Nat} (hb : Sh b) (hn : n ∈ [1, 2, 4, 8, 16]) (hd : d < n + 1) (h1 : 1 ≤ d) :
    fok (uu d n) ∧ fok (ur d n) ∧ fok (FP.fmul b (ur d n)) ∧ Sh (FP.fmul b (ur d n)) ∧ fok (FP.fadd (FP.fmul b (ur d n)) (uu d n)) ∧ Sh (FP.fadd (FP.fmul b (ur d n)) (uu d n)) := by
  obtain ⟨a1, a2, a3, a4, a5⟩ := u_tab n hn d hd h1
  obtain ⟨m1, m2⟩ := Sh_mul hb (show Sh (ur d n) from a4)
  have hu : (uu d n).toNat < 2139095040 := Nat.lt_of_le_of_lt a3 (by decide)
  refine ⟨a1, a2, m2, m1, (fok_iff _).mpr (fadd_nn m1.lt hu).1, ?_⟩
  have h := fadd_le (V := 1065353216) m1.lt hu (by decide) (by
    have : uo (FP.fmul b (ur d n)).toNat ≤ uo (ur d n).toNat := uo_le.mpr (fmul_le2 hb (show Sh (ur d n) from a4))
    show _ ≤ uo 1065353216
    omega)
  exact h
theorem fmul_z {b : UInt32} (hb : Sh b) : FP.fmul FP.fconst0 b = FP.fconst0 := by
  have h := fmul_le (a := FP.fconst0) (b := b) (by decide) hb
  have h2 : (FP.fmul FP.fconst0 b).toNat = 0 := by
    have : (FP.fconst0 : UInt32).toNat = 0 := by decide
    omega
  exact UInt32.toNat_inj.mp (by rw [h2]; decide)
