/-! ===== floats and doubles by their units: exact results ===== -/
theorem ex_V {f : FP.Core.Fmt} (hf : FP.Core.Good f) {m j : Nat} (hm : m < 2 ^ f.p) (hj : f.qmin + (j : Int) ≤ f.qmax) : ∃ V, FP.Core.fits f V ∧ V ≠ .nan ∧ FP.Core.zmag f V = m * 2 ^ j := by
  obtain ⟨c', q', h1, h2⟩ := FP.Core.round_exact hf false (c := m) (q := f.qmin + j) hm (by omega) hj
  refine ⟨FP.Core.round f (.fin false m (f.qmin + j)), FP.Core.round_fits hf _, ?_, ?_⟩
  · rw [h1]; exact FP.Core.Datum.noConfusion
  · rw [h1]
    show FP.Core.inUnits c' q' f.qmin = _
    rw [h2]
    unfold FP.Core.inUnits
    rw [show (f.qmin + (j : Int) - f.qmin).toNat = j by omega]
theorem rnd_mag {f : FP.Core.Fmt} (hf : FP.Core.Good f) {s : Bool} {c B : Nat} {q e0 : Int} {m j : Nat} (hB : 0 < B) (hm : m < 2 ^ f.p) (hj : f.qmin + (j : Int) ≤ f.qmax) (h0 : e0 ≤ f.qmin) (h0e : e0 ≤ q) (h : FP.Core.inUnits c q e0 = m * 2 ^ j * 2 ^ (f.qmin - e0).toNat * B) : FP.Core.zmag f (FP.Core.roundRatio f s c B q) = m * 2 ^ j := by
  obtain ⟨V, v1, v2, v4⟩ := ex_V hf hm hj
  have hle := FP.Core.zmag_roundRatio_le hf (s := s) (A := c) (B := B) (e := q) (e0 := e0) hB v1 v2 h0 h0e (by rw [v4, h]; exact Nat.le_refl _)
  have hge := FP.Core.zmag_roundRatio_ge hf (s := s) (A := c) (B := B) (e := q) (e0 := e0) hB v1 h0 h0e (by rw [v4, h]; exact Nat.le_refl _)
  rw [v4] at hle hge
  omega
/-- a number by its sign and its units -/
def Zd (a : UInt64) (s : Bool) (z : Nat) : Prop := FP.Core.val64 a ≠ .nan ∧ FP.Core.sgn (FP.Core.val64 a) = s ∧ FP.Core.zmag FP.Core.b64 (FP.Core.val64 a) = z
def Zf (a : UInt32) (s : Bool) (z : Nat) : Prop := FP.Core.val32 a ≠ .nan ∧ FP.Core.sgn (FP.Core.val32 a) = s ∧ FP.Core.zmag FP.Core.b32 (FP.Core.val32 a) = z
theorem top64 : 2 ^ 1200 ≤ FP.Core.b64.tails * 2 ^ (FP.Core.b64.exps - 2) := by decide +kernel
theorem top32 : 2 ^ 200 ≤ FP.Core.b32.tails * 2 ^ (FP.Core.b32.exps - 2) := by decide +kernel
theorem Zd.fin {a : UInt64} {s : Bool} {z : Nat} (h : Zd a s z) (hz : z < 2 ^ 1200) : ∃ c q, FP.Core.val64 a = .fin s c q ∧ FP.Core.fits FP.Core.b64 (.fin s c q) ∧ FP.Core.zmag FP.Core.b64 (.fin s c q) = z := by
  obtain ⟨h1, h2, h3⟩ := h
  have hf := FP.Core.val64_fits a
  cases hv : FP.Core.val64 a with
  | nan => exact absurd hv h1
  | inf t =>
    rw [hv] at h3
    have h4 : FP.Core.b64.tails * 2 ^ (FP.Core.b64.exps - 2) = z := h3
    have := top64
    exact absurd (Nat.lt_of_le_of_lt (h4 ▸ this) hz) (Nat.lt_irrefl _)
  | fin t c q =>
    rw [hv] at h2 h3 hf
    have h4 : t = s := h2
    subst h4
    exact ⟨c, q, rfl, hf, h3⟩
theorem Zf.fin {a : UInt32} {s : Bool} {z : Nat} (h : Zf a s z) (hz : z < 2 ^ 200) : ∃ c q, FP.Core.val32 a = .fin s c q ∧ FP.Core.fits FP.Core.b32 (.fin s c q) ∧ FP.Core.zmag FP.Core.b32 (.fin s c q) = z := by
  obtain ⟨h1, h2, h3⟩ := h
  have hf := FP.Core.val32_fits a
  cases hv : FP.Core.val32 a with
  | nan => exact absurd hv h1
  | inf t =>
    rw [hv] at h3
    have h4 : FP.Core.b32.tails * 2 ^ (FP.Core.b32.exps - 2) = z := h3
    have := top32
    exact absurd (Nat.lt_of_le_of_lt (h4 ▸ this) hz) (Nat.lt_irrefl _)
  | fin t c q =>
    rw [hv] at h2 h3 hf
    have h4 : t = s := h2
    subst h4
    exact ⟨c, q, rfl, hf, h3⟩
theorem qx64 : FP.Core.b64.qmax = 971 := by decide
theorem qx32 : FP.Core.b32.qmax = 104 := by decide
theorem Zd.mul {a b : UInt64} {s t : Bool} {z y m j : Nat} (ha : Zd a s z) (hb : Zd b t y) (hz : z < 2 ^ 1200) (hy : y < 2 ^ 1200) (hm : m < 2 ^ 53) (hj : j ≤ 2045) (h : z * y = m * 2 ^ j * 2 ^ 1074) : Zd (FP.dmul a b) (s != t) (m * 2 ^ j) := by
  obtain ⟨c, q, hv, hf, e1⟩ := ha.fin hz
  obtain ⟨d, r, hw, hg, e2⟩ := hb.fin hy
  obtain ⟨p1, p2, p3⟩ := FP.Core.product_units hf hg
  have hr := FP.Core.val64_dmul a b
  rw [hv, hw, p1] at hr
  have hr2 : FP.Core.val64 (FP.dmul a b) = FP.Core.roundRatio FP.Core.b64 (s != t) (c * d) 1 (q + r) := hr
  refine ⟨?_, ?_, ?_⟩
  · rw [hr2]; exact FP.Core.roundRatio_ne_nan _ _ _ _ _
  · rw [hr2]; exact FP.Core.sgn_roundRatio _ _ _ _ _
  · rw [hr2]
    refine rnd_mag FP.Core.good_b64 (e0 := 2 * FP.Core.b64.qmin) (by decide) hm (by rw [FP.Core.qmin_b64, qx64]; omega) (by rw [FP.Core.qmin_b64]; decide) p2 ?_
    rw [p3, e1, e2, h, FP.Core.qmin_b64, Nat.mul_one]
    rfl
theorem Zf.mul {a b : UInt32} {s t : Bool} {z y m j : Nat} (ha : Zf a s z) (hb : Zf b t y) (hz : z < 2 ^ 200) (hy : y < 2 ^ 200) (hm : m < 2 ^ 24) (hj : j ≤ 253) (h : z * y = m * 2 ^ j * 2 ^ 149) : Zf (FP.fmul a b) (s != t) (m * 2 ^ j) := by
  obtain ⟨c, q, hv, hf, e1⟩ := ha.fin hz
  obtain ⟨d, r, hw, hg, e2⟩ := hb.fin hy
  obtain ⟨p1, p2, p3⟩ := FP.Core.product_units hf hg
  have hr := FP.Core.val32_fmul a b
  rw [hv, hw, p1] at hr
  have hr2 : FP.Core.val32 (FP.fmul a b) = FP.Core.roundRatio FP.Core.b32 (s != t) (c * d) 1 (q + r) := hr
  refine ⟨?_, ?_, ?_⟩
  · rw [hr2]; exact FP.Core.roundRatio_ne_nan _ _ _ _ _
  · rw [hr2]; exact FP.Core.sgn_roundRatio _ _ _ _ _
  · rw [hr2]
    refine rnd_mag FP.Core.good_b32 (e0 := 2 * FP.Core.b32.qmin) (by decide) hm (by rw [FP.Core.qmin_b32, qx32]; omega) (by rw [FP.Core.qmin_b32]; decide) p2 ?_
    rw [p3, e1, e2, h, FP.Core.qmin_b32, Nat.mul_one]
    rfl
theorem sgn_nat {s : Bool} {k z : Nat} (h : FP.Core.signed s k = (z : Int)) : k = z := by
  cases s
  · have : ((k : Nat) : Int) = z := h
    omega
  · have : -((k : Nat) : Int) = z := h
    omega
/-- less, and nothing is lost -/
theorem Zd.sub {a b : UInt64} {z y m j : Nat} (ha : Zd a false z) (hb : Zd b false y) (hz : z < 2 ^ 1200) (hy : y < 2 ^ 1200) (hm : m < 2 ^ 53) (hj : j ≤ 2045) (h : z = y + m * 2 ^ j) : Zd (FP.dsub a b) false (m * 2 ^ j) := by
  obtain ⟨c, q, hv, hf, e1⟩ := ha.fin hz
  obtain ⟨d, r, hw, hg, e2⟩ := hb.fin hy
  have hg' : FP.Core.fits FP.Core.b64 (.fin true d r) := hg
  have hr := FP.Core.val64_dsub a b
  rw [hv, hw] at hr
  have hsum : FP.Core.exactSum (.fin false c q) (FP.Core.negate (.fin false d r)) = .fin (FP.Core.sumSign false true (FP.Core.sumUnits false c q true d r (min q r))) (FP.Core.sumUnits false c q true d r (min q r)).natAbs (min q r) := rfl
  obtain ⟨sg, n, e, p1, p2, p3⟩ := FP.Core.sum_units hf hg'
  have p1' : FP.Core.Datum.fin (FP.Core.sumSign false true (FP.Core.sumUnits false c q true d r (min q r))) (FP.Core.sumUnits false c q true d r (min q r)).natAbs (min q r) = .fin sg n e := by rw [← p1]; rfl
  obtain ⟨i1, i2, i3⟩ := FP.Core.Datum.fin.inj p1'
  have e3 : FP.Core.signed sg (FP.Core.inUnits n e FP.Core.b64.qmin) = ((m * 2 ^ j : Nat) : Int) := by
    rw [p3]
    show ((FP.Core.zmag FP.Core.b64 (.fin false c q) : Nat) : Int) + -((FP.Core.zmag FP.Core.b64 (.fin false d r) : Nat) : Int) = _
    rw [e1, e2, h]
    omega
  have hn := sgn_nat e3
  have hsf : sg = false := by
    cases hsg : sg with
    | false => rfl
    | true =>
      rw [hsg] at e3
      have e4 : -((FP.Core.inUnits n e FP.Core.b64.qmin : Nat) : Int) = ((m * 2 ^ j : Nat) : Int) := e3
      have hn0 : FP.Core.inUnits n e FP.Core.b64.qmin = 0 := by omega
      have hn00 : n = 0 := by
        unfold FP.Core.inUnits at hn0
        rcases Nat.mul_eq_zero.mp hn0 with h5 | h5
        · exact h5
        · exact absurd h5 (Nat.ne_of_gt (Nat.two_pow_pos _))
      rw [hn00] at i2
      have h6 : FP.Core.sumUnits false c q true d r (min q r) = 0 := Int.natAbs_eq_zero.mp i2
      rw [h6, hsg] at i1
      exact absurd i1 (by decide)
  have hr2 : FP.Core.val64 (FP.dsub a b) = FP.Core.roundRatio FP.Core.b64 sg n 1 e := by
    have : FP.Core.val64 (FP.dsub a b) = FP.Core.round FP.Core.b64 (FP.Core.exactSum (.fin false c q) (FP.Core.negate (.fin false d r))) := hr
    rw [this, hsum, p1']
    rfl
  refine ⟨?_, ?_, ?_⟩
  · rw [hr2]; exact FP.Core.roundRatio_ne_nan _ _ _ _ _
  · rw [hr2, FP.Core.sgn_roundRatio]; exact hsf
  · rw [hr2]
    refine rnd_mag FP.Core.good_b64 (e0 := FP.Core.b64.qmin) (by decide) hm (by rw [FP.Core.qmin_b64, qx64]; omega) (Int.le_refl _) p2 ?_
    rw [hn, Int.sub_self, Int.toNat_zero, Nat.pow_zero, Nat.mul_one, Nat.mul_one]
theorem Zf.sub {a b : UInt32} {z y m j : Nat} (ha : Zf a false z) (hb : Zf b false y) (hz : z < 2 ^ 200) (hy : y < 2 ^ 200) (hm : m < 2 ^ 24) (hj : j ≤ 253) (h : z = y + m * 2 ^ j) : Zf (FP.fsub a b) false (m * 2 ^ j) := by
  obtain ⟨c, q, hv, hf, e1⟩ := ha.fin hz
  obtain ⟨d, r, hw, hg, e2⟩ := hb.fin hy
  have hg' : FP.Core.fits FP.Core.b32 (.fin true d r) := hg
  have hr := FP.Core.val32_fsub a b
  rw [hv, hw] at hr
  have hsum : FP.Core.exactSum (.fin false c q) (FP.Core.negate (.fin false d r)) = .fin (FP.Core.sumSign false true (FP.Core.sumUnits false c q true d r (min q r))) (FP.Core.sumUnits false c q true d r (min q r)).natAbs (min q r) := rfl
  obtain ⟨sg, n, e, p1, p2, p3⟩ := FP.Core.sum_units hf hg'
  have p1' : FP.Core.Datum.fin (FP.Core.sumSign false true (FP.Core.sumUnits false c q true d r (min q r))) (FP.Core.sumUnits false c q true d r (min q r)).natAbs (min q r) = .fin sg n e := by rw [← p1]; rfl
  obtain ⟨i1, i2, i3⟩ := FP.Core.Datum.fin.inj p1'
  have e3 : FP.Core.signed sg (FP.Core.inUnits n e FP.Core.b32.qmin) = ((m * 2 ^ j : Nat) : Int) := by
    rw [p3]
    show ((FP.Core.zmag FP.Core.b32 (.fin false c q) : Nat) : Int) + -((FP.Core.zmag FP.Core.b32 (.fin false d r) : Nat) : Int) = _
    rw [e1, e2, h]
    omega
  have hn := sgn_nat e3
  have hsf : sg = false := by
    cases hsg : sg with
    | false => rfl
    | true =>
      rw [hsg] at e3
      have e4 : -((FP.Core.inUnits n e FP.Core.b32.qmin : Nat) : Int) = ((m * 2 ^ j : Nat) : Int) := e3
      have hn0 : FP.Core.inUnits n e FP.Core.b32.qmin = 0 := by omega
      have hn00 : n = 0 := by
        unfold FP.Core.inUnits at hn0
        rcases Nat.mul_eq_zero.mp hn0 with h5 | h5
        · exact h5
        · exact absurd h5 (Nat.ne_of_gt (Nat.two_pow_pos _))
      rw [hn00] at i2
      have h6 : FP.Core.sumUnits false c q true d r (min q r) = 0 := Int.natAbs_eq_zero.mp i2
      rw [h6, hsg] at i1
      exact absurd i1 (by decide)
  have hr2 : FP.Core.val32 (FP.fsub a b) = FP.Core.roundRatio FP.Core.b32 sg n 1 e := by
    have : FP.Core.val32 (FP.fsub a b) = FP.Core.round FP.Core.b32 (FP.Core.exactSum (.fin false c q) (FP.Core.negate (.fin false d r))) := hr
    rw [this, hsum, p1']
    rfl
  refine ⟨?_, ?_, ?_⟩
  · rw [hr2]; exact FP.Core.roundRatio_ne_nan _ _ _ _ _
  · rw [hr2, FP.Core.sgn_roundRatio]; exact hsf
  · rw [hr2]
    refine rnd_mag FP.Core.good_b32 (e0 := FP.Core.b32.qmin) (by decide) hm (by rw [FP.Core.qmin_b32, qx32]; omega) (Int.le_refl _) p2 ?_
    rw [hn, Int.sub_self, Int.toNat_zero, Nat.pow_zero, Nat.mul_one, Nat.mul_one]
/-- by two -/
theorem v_two : FP.Core.val64 4611686018427387904 = .fin false (2 ^ 52) (-51) := by decide +kernel
theorem Zd.half {a : UInt64} {m j : Nat} (ha : Zd a false (m * 2 ^ (j + 1))) (hz : m * 2 ^ (j + 1) < 2 ^ 1200) (hm : m < 2 ^ 53) (hj : j ≤ 2045) : Zd (FP.ddiv a 4611686018427387904) false (m * 2 ^ j) := by
  obtain ⟨c, q, hv, hf, e1⟩ := ha.fin hz
  have hr := FP.Core.val64_ddiv a 4611686018427387904
  rw [hv, v_two] at hr
  have hr2 : FP.Core.val64 (FP.ddiv a 4611686018427387904) = FP.Core.roundRatio FP.Core.b64 (false != false) c (2 ^ 52) (q - (-51)) := by
    have : FP.Core.val64 (FP.ddiv a 4611686018427387904) = FP.Core.quotient FP.Core.b64 (.fin false c q) (.fin false (2 ^ 52) (-51)) := hr
    rw [this]
    rfl
  have hq := hf.2.1
  refine ⟨?_, ?_, ?_⟩
  · rw [hr2]; exact FP.Core.roundRatio_ne_nan _ _ _ _ _
  · rw [hr2, FP.Core.sgn_roundRatio]; rfl
  · rw [hr2]
    refine rnd_mag FP.Core.good_b64 (e0 := FP.Core.b64.qmin) (by decide) hm (by rw [FP.Core.qmin_b64, qx64]; omega) (Int.le_refl _) (by omega) ?_
    have e2 : c * 2 ^ (q - FP.Core.b64.qmin).toNat = m * 2 ^ (j + 1) := e1
    unfold FP.Core.inUnits
    rw [show (q - -51 - FP.Core.b64.qmin).toNat = (q - FP.Core.b64.qmin).toNat + 51 by omega, Nat.pow_add, ← Nat.mul_assoc, e2, Int.sub_self, Int.toNat_zero, Nat.pow_zero, Nat.mul_one, Nat.pow_succ, Nat.mul_assoc, Nat.mul_assoc, Nat.mul_assoc]
/-- compared -/
theorem Zd.zv {a : UInt64} {z : Nat} (h : Zd a false z) : FP.Core.zval FP.Core.b64 (FP.Core.val64 a) = (z : Int) := by
  unfold FP.Core.zval
  rw [h.2.1, h.2.2]
  rfl
theorem Zf.zv {a : UInt32} {z : Nat} (h : Zf a false z) : FP.Core.zval FP.Core.b32 (FP.Core.val32 a) = (z : Int) := by
  unfold FP.Core.zval
  rw [h.2.1, h.2.2]
  rfl
theorem Zd.ge {a b : UInt64} {z y : Nat} (ha : Zd a false z) (hb : Zd b false y) : 0 ≤ Op.cmpValue (FP.dcmp a b) .g ↔ y ≤ z := by
  by_cases h : y ≤ z
  · have := FP.Core.dcmp_ge.mpr ⟨ha.1, hb.1, by rw [ha.zv, hb.zv]; omega⟩
    have e : FP.dcmp a b = some .gt ∨ FP.dcmp a b = some .eq := this
    refine ⟨fun _ => h, fun _ => ?_⟩
    rcases e with e | e <;> rw [e] <;> decide
  · have := FP.Core.dcmp_lt.mpr ⟨ha.1, hb.1, by rw [ha.zv, hb.zv]; omega⟩
    have e : FP.dcmp a b = some .lt := this
    refine ⟨fun g => ?_, fun g => absurd g h⟩
    rw [e] at g
    exact absurd g (by decide)
theorem Zd.lt {a b : UInt64} {z y : Nat} (ha : Zd a false z) (hb : Zd b false y) : Op.cmpValue (FP.dcmp a b) .l < 0 ↔ z < y := by
  by_cases h : y ≤ z
  · have := FP.Core.dcmp_ge.mpr ⟨ha.1, hb.1, by rw [ha.zv, hb.zv]; omega⟩
    have e : FP.dcmp a b = some .gt ∨ FP.dcmp a b = some .eq := this
    refine ⟨fun g => ?_, fun g => absurd g (by omega)⟩
    rcases e with e | e <;> rw [e] at g <;> exact absurd g (by decide)
  · have := FP.Core.dcmp_lt.mpr ⟨ha.1, hb.1, by rw [ha.zv, hb.zv]; omega⟩
    have e : FP.dcmp a b = some .lt := this
    refine ⟨fun _ => by omega, fun _ => ?_⟩
    rw [e]
    decide
theorem Zf.ge {a b : UInt32} {z y : Nat} (ha : Zf a false z) (hb : Zf b false y) : 0 ≤ Op.cmpValue (FP.fcmp a b) .g ↔ y ≤ z := by
  by_cases h : y ≤ z
  · have := FP.Core.fcmp_ge.mpr ⟨ha.1, hb.1, by rw [ha.zv, hb.zv]; omega⟩
    have e : FP.fcmp a b = some .gt ∨ FP.fcmp a b = some .eq := this
    refine ⟨fun _ => h, fun _ => ?_⟩
    rcases e with e | e <;> rw [e] <;> decide
  · have := FP.Core.fcmp_lt.mpr ⟨ha.1, hb.1, by rw [ha.zv, hb.zv]; omega⟩
    have e : FP.fcmp a b = some .lt := this
    refine ⟨fun g => ?_, fun g => absurd g h⟩
    rw [e] at g
    exact absurd g (by decide)
theorem Zf.ok {a : UInt32} {s : Bool} {z : Nat} (h : Zf a s z) : fok a := (fok_iff a).mpr h.1
theorem Zd.ok {a : UInt64} {s : Bool} {z : Nat} (h : Zd a s z) : dok a := (dok_iff a).mpr h.1
