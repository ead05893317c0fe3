/-! ===== exact: the zero below zero ===== -/
theorem v_mz : FP.Core.val32 2147483648 = .fin true 0 (-149) := by decide +kernel
theorem Mg.ff {a : UInt32} {K : Nat} (h : Mg K a) (hK : K ≤ 254) : ∃ s c q, FP.Core.val32 a = .fin s c q ∧ FP.Core.fits FP.Core.b32 (.fin s c q) := by
  unfold Mg at h
  obtain ⟨s, c, q, hv⟩ := (FP.Core.fin_bits32 a).mpr (by omega)
  exact ⟨s, c, q, hv, hv ▸ FP.Core.val32_fits a⟩
theorem iu_zero {c : Nat} {q e : Int} (h : FP.Core.inUnits c q e = 0) : c = 0 := by
  unfold FP.Core.inUnits at h
  rcases Nat.mul_eq_zero.mp h with h5 | h5
  · exact h5
  · exact absurd h5 (Nat.ne_of_gt (Nat.two_pow_pos _))
theorem is_mz {a : UInt32} {q : Int} (hv : FP.Core.val32 a = .fin true 0 q) : a = 2147483648 := by
  have hf := FP.Core.val32_fits a
  rw [hv] at hf
  have hq := FP.Core.fits_zero_q FP.Core.good_b32 hf
  refine FP.Core.val32_inj (by rw [hv]; exact FP.Core.Datum.noConfusion) ?_
  rw [hv, v_mz, hq, FP.Core.qmin_b32]
theorem fadd_mz {a b : UInt32} {K : Nat} (ha : Mg K a) (hb : Mg K b) (hK : K ≤ 253) (h : FP.fadd a b = 2147483648) : a = 2147483648 ∧ b = 2147483648 := by
  obtain ⟨s, c, q, hv, hf⟩ := ha.ff (by omega)
  obtain ⟨t, d, r, hw, hg⟩ := hb.ff (by omega)
  have hr := FP.Core.val32_fadd a b
  rw [hv, hw] at hr
  have hr2 : FP.Core.val32 (FP.fadd a b) = FP.Core.roundRatio FP.Core.b32 (FP.Core.sumSign s t (FP.Core.sumUnits s c q t d r (min q r))) (FP.Core.sumUnits s c q t d r (min q r)).natAbs 1 (min q r) := hr
  rw [h, v_mz] at hr2
  have q1 := hf.2.1
  have q2 := hg.2.1
  have hsg : FP.Core.sumSign s t (FP.Core.sumUnits s c q t d r (min q r)) = true := by
    have h3 := congrArg FP.Core.sgn hr2
    rw [FP.Core.sgn_roundRatio] at h3
    exact h3.symm
  have hmag : FP.Core.zmag FP.Core.b32 (FP.Core.roundRatio FP.Core.b32 (FP.Core.sumSign s t (FP.Core.sumUnits s c q t d r (min q r))) (FP.Core.sumUnits s c q t d r (min q r)).natAbs 1 (min q r)) = 0 := by
    rw [← hr2]
    show FP.Core.inUnits 0 (-149) FP.Core.b32.qmin = 0
    unfold FP.Core.inUnits
    exact Nat.zero_mul _
  have hn : (FP.Core.sumUnits s c q t d r (min q r)).natAbs = 0 := by
    apply Classical.byContradiction
    intro hne
    have hge := FP.Core.zmag_roundRatio_ge FP.Core.good_b32 (s := FP.Core.sumSign s t (FP.Core.sumUnits s c q t d r (min q r))) (A := (FP.Core.sumUnits s c q t d r (min q r)).natAbs) (B := 1) (e := min q r) (e0 := FP.Core.b32.qmin) (V := .fin false 1 FP.Core.b32.qmin) (by decide) ⟨by decide, Int.le_refl _, by decide, Or.inl rfl⟩ (Int.le_refl _) (by omega) (by
      have e1 : FP.Core.zmag FP.Core.b32 (.fin false 1 FP.Core.b32.qmin) = 1 := by decide
      rw [e1, Int.sub_self, Int.toNat_zero, Nat.pow_zero]
      unfold FP.Core.inUnits
      exact Nat.mul_pos (Nat.pos_of_ne_zero hne) (Nat.two_pow_pos _))
    rw [hmag] at hge
    have e1 : FP.Core.zmag FP.Core.b32 (.fin false 1 FP.Core.b32.qmin) = 1 := by decide
    omega
  have hv0 := Int.natAbs_eq_zero.mp hn
  rw [hv0] at hsg
  have hst : s = true ∧ t = true := by
    unfold FP.Core.sumSign at hsg
    rw [if_pos rfl, Bool.and_eq_true] at hsg
    exact hsg
  obtain ⟨rfl, rfl⟩ := hst
  have hv1 : -((FP.Core.inUnits c q (min q r) : Nat) : Int) + -((FP.Core.inUnits d r (min q r) : Nat) : Int) = 0 := hv0
  have c0 : c = 0 := iu_zero (show FP.Core.inUnits c q (min q r) = 0 by omega)
  have d0 : d = 0 := iu_zero (show FP.Core.inUnits d r (min q r) = 0 by omega)
  subst c0 d0
  exact ⟨is_mz hv, is_mz hw⟩
theorem fs_nz {vl : Nat → Int32} {sh : Nat → UInt32} {S c : Nat} (hS : S ≤ 6) (hc : c < 4) (hv : ∀ j, j < 4 * S → VOK (vl j)) (hsh : ∀ s, s < 6 → Sh (sh s)) : ∀ (k x : Nat) (s : UInt32), x + k ≤ S → Mg (134 + 2 * x) s → s ≠ 2147483648 → fs (lt4 vl c sh) k x s ≠ 2147483648 := by
  intro k
  induction k with
  | zero => intro x s _ _ h; rw [fs_z]; exact h
  | succ k ih =>
    intro x s hx hs hn
    have ht := lt4_mg (hv (4 * x + c) (by omega)) (hsh x (by omega))
    obtain ⟨a1, a2⟩ := Mg_add hs (ht.up (show 134 ≤ 134 + 2 * x by omega)) (by omega)
    rw [fs_s]
    exact ih (x + 1) _ (by omega) a1 (fun z => hn (fadd_mz hs (ht.up (show 134 ≤ 134 + 2 * x by omega)) (by omega) z).1)
theorem zf_0 : Zf FP.fconst0 false 0 := by unfold Zf; decide +kernel
theorem mz_of {P : UInt32} (h : FP.Core.sgn (FP.Core.val32 P) = true) (hn : FP.Core.val32 P ≠ .nan) (h0 : P.toNat % 2 ^ 31 = 0) : P = 2147483648 := by
  rw [FP.Core.sgn_bits32 hn] at h
  have h1 := of_decide_eq_true h
  have h2 := P.toNat_lt
  apply UInt32.toNat_inj.mp
  show P.toNat = 2147483648
  omega
theorem neg_iff {A : UInt32} {K : Nat} (hA : Mg K A) (hK : K ≤ 254) (hn : A ≠ 2147483648) : 0 ≤ Op.cmpValue (FP.fcmp A FP.fconst0) .g ↔ FP.Core.sgn (FP.Core.val32 A) = false := by
  have h1 : FP.Core.val32 A ≠ .nan := (FP.Core.ne_nan32 A).mpr (by unfold Mg at hA; omega)
  cases hs : FP.Core.sgn (FP.Core.val32 A) with
  | false => exact ⟨fun _ => rfl, fun _ => (Zf.ge (z := FP.Core.zmag FP.Core.b32 (FP.Core.val32 A)) ⟨h1, hs, rfl⟩ zf_0).mpr (Nat.zero_le _)⟩
  | true =>
    have hz : FP.Core.zmag FP.Core.b32 (FP.Core.val32 A) ≠ 0 := fun z => by
      rw [FP.Core.zmag_toNat32 h1] at z
      exact hn (mz_of hs h1 (FP.Core.unitsOf_eq_zero.mp z))
    have h3 := FP.Core.fcmp_lt.mpr ⟨h1, zf_0.1, by
      rw [zf_0.zv]
      unfold FP.Core.zval
      rw [hs]
      show -((FP.Core.zmag FP.Core.b32 (FP.Core.val32 A) : Nat) : Int) < ((0 : Nat) : Int)
      omega⟩
    have h4 : FP.fcmp A FP.fconst0 = some .lt := h3
    rw [h4]
    exact ⟨fun z => absurd z (by decide), fun z => absurd z (by decide)⟩
theorem zero_iff {P : UInt32} (hP : FP.Core.val32 P ≠ .nan) : Op.cmpValue (FP.fcmp P FP.fconst0) .l = 0 ↔ P.toNat % 2 ^ 31 = 0 := by
  have e0 := FP.Core.zval_eq_zero32 hP
  have z0 := zf_0.zv
  by_cases h : P.toNat % 2 ^ 31 = 0
  · have h3 := FP.Core.fcmp_eq.mpr ⟨hP, zf_0.1, by rw [z0, e0.mpr h]; rfl⟩
    have h4 : FP.fcmp P FP.fconst0 = some .eq := h3
    rw [h4]
    exact ⟨fun _ => h, fun _ => rfl⟩
  · have hne : FP.Core.zval FP.Core.b32 (FP.Core.val32 P) ≠ 0 := fun z => h (e0.mp z)
    refine ⟨fun z => ?_, fun z => absurd z h⟩
    exfalso
    by_cases hl : FP.Core.zval FP.Core.b32 (FP.Core.val32 P) < 0
    · have h3 := FP.Core.fcmp_lt.mpr ⟨hP, zf_0.1, by rw [z0]; exact hl⟩
      have h4 : FP.fcmp P FP.fconst0 = some .lt := h3
      rw [h4] at z
      exact absurd z (by decide)
    · have h3 := FP.Core.fcmp_gt.mpr ⟨hP, zf_0.1, by rw [z0]; show ((0 : Nat) : Int) < _; omega⟩
      have h4 : FP.fcmp P FP.fconst0 = some .gt := h3
      rw [h4] at z
      exact absurd z (by decide)
theorem fmul_sgn {A c : UInt32} {K L : Nat} (hA : Mg K A) (hK : K ≤ 254) (hc : Mg L c) (hL : L ≤ 254) (h0 : c.toNat < 2 ^ 31) : FP.Core.val32 (FP.fmul A c) ≠ .nan ∧ FP.Core.sgn (FP.Core.val32 (FP.fmul A c)) = FP.Core.sgn (FP.Core.val32 A) := by
  obtain ⟨s, x, q, hv, hf⟩ := hA.ff hK
  obtain ⟨t, d, r, hw, hg⟩ := hc.ff hL
  have ht : t = false := by
    have h1 : FP.Core.val32 c ≠ .nan := by rw [hw]; exact FP.Core.Datum.noConfusion
    have h2 := FP.Core.sgn_bits32 h1
    rw [hw, decide_eq_false (by omega)] at h2
    exact h2
  subst ht
  have hr := FP.Core.val32_fmul A c
  rw [hv, hw] at hr
  have hr2 : FP.Core.val32 (FP.fmul A c) = FP.Core.roundRatio FP.Core.b32 (s != false) (x * d) 1 (q + r) := hr
  rw [hr2, hv]
  refine ⟨FP.Core.roundRatio_ne_nan _ _ _ _ _, ?_⟩
  rw [FP.Core.sgn_roundRatio]
  cases s <;> rfl
theorem w_pos : ∀ w, w < 17 → (Wg w).toNat < 2 ^ 31 ∧ (FP.fsub FP.fconst1 (Wg w)).toNat < 2 ^ 31 := by decide +kernel
theorem mz_mz : FP.fadd 2147483648 2147483648 = 2147483648 := by decide +kernel
theorem s_minus {S W mk wt c : Nat} {vl : Nat → Int32} {m : AM} (hS : S ≤ 6) (hwt : wt < 17) (hc : c < 4) (hv5 : ∀ j, j < 4 * S → VOK (vl j)) (hok : MOK S W m) {r : UInt32} (e : f_X5_mixedLimb (nI S) (nI mk) (nI wt) vl m.1.2.2.2.1 m.2.1.2.2.2.1 (nI c) = some r) :
    f_X5_isMinusZero (nI S) (nI mk) (nI wt) vl m.1.2.2.2.1 m.2.1.2.2.2.1 (nI c) = some (if r = 2147483648 then 1 else 0) := by
  obtain ⟨w1, w2⟩ := w_tb wt hwt
  obtain ⟨y1, y2⟩ := w_pos wt hwt
  have a5 := lim5 hS hc hv5 hok.1.2.2.2.1
  have b5 := lim5 hS hc hv5 hok.2.2.2.2.1
  have za : fs (lt4 vl c m.1.2.2.2.1) S 0 FP.fconst0 ≠ 2147483648 := fs_nz hS hc hv5 hok.1.2.2.2.1 S 0 FP.fconst0 (by omega) Mg_0 (by decide)
  have zb : fs (lt4 vl c m.2.1.2.2.2.1) S 0 FP.fconst0 ≠ 2147483648 := fs_nz hS hc hv5 hok.2.2.2.2.1 S 0 FP.fconst0 (by omega) Mg_0 (by decide)
  unfold f_X5_mixedLimb f_X5_upperWeight at e
  unfold f_X5_isMinusZero f_X5_upperWeight
  rw [a5.1, b5.1] at e ⊢
  obtain ⟨-, a7⟩ := a5
  obtain ⟨-, b7⟩ := b5
  generalize fs (lt4 vl c m.1.2.2.2.1) S 0 FP.fconst0 = A at a7 za e ⊢
  generalize fs (lt4 vl c m.2.1.2.2.2.1) S 0 FP.fconst0 = Bq at b7 zb e ⊢
  have hm : f_X0_isMasked (nI mk) (nI c) = some (bI (decide (((nI mk >>> (nI c &&& 31)) &&& 1) = 1))) := by
    unfold f_X0_isMasked bI
    by_cases h : ((nI mk >>> (nI c &&& 31)) &&& 1) = 1 <;> simp [h]
  rw [hm] at e ⊢
  simp only [Option.bind_some] at e ⊢
  have p1 : Mg 148 (FP.fmul A (FP.fsub FP.fconst1 (Wg wt))) := (FP.Core.fmul_mag (Ka := 146) (Kb := 128) a7 w2 (by omega) (by omega) : _)
  have p2 : Mg 148 (FP.fmul Bq (Wg wt)) := (FP.Core.fmul_mag (Ka := 146) (Kb := 128) b7 w1 (by omega) (by omega) : _)
  obtain ⟨p3, p4⟩ := Mg_add p1 p2 (by omega)
  obtain ⟨n1, g1⟩ := fmul_sgn a7 (by omega) (show Mg 128 (FP.fsub FP.fconst1 (Wg wt)) from w2) (by omega) y2
  obtain ⟨n2, g2⟩ := fmul_sgn b7 (by omega) (show Mg 128 (Wg wt) from w1) (by omega) y1
  by_cases h : ((nI mk >>> (nI c &&& 31)) &&& 1) = 1
  · rw [decide_eq_true h, if_neg (show ¬ bI true = 0 by decide)] at e ⊢
    rw [gd_t (show fok (FP.fdiv (FP.i2f (nI wt)) 1098907648) from fok_mg w1 (by omega))] at e ⊢
    simp only [Option.bind_some] at e ⊢
    rw [gd_t (show fok (FP.fsub FP.fconst1 (FP.fdiv (FP.i2f (nI wt)) 1098907648)) from fok_mg w2 (by omega)), gd_t (show fok (FP.fmul A (FP.fsub FP.fconst1 (FP.fdiv (FP.i2f (nI wt)) 1098907648))) from fok_mg p1 (by omega)), gd_t (show fok (FP.fmul Bq (FP.fdiv (FP.i2f (nI wt)) 1098907648)) from fok_mg p2 (by omega))] at e ⊢
    rw [gd_t (show fok (FP.fadd (FP.fmul A (FP.fsub FP.fconst1 (FP.fdiv (FP.i2f (nI wt)) 1098907648))) (FP.fmul Bq (FP.fdiv (FP.i2f (nI wt)) 1098907648))) from p4)] at e
    have er := Option.some.inj e
    have er' : FP.fadd (FP.fmul A (FP.fsub FP.fconst1 (Wg wt))) (FP.fmul Bq (Wg wt)) = r := er
    show (if 0 ≤ Op.cmpValue (FP.fcmp A FP.fconst0) .g then some 0 else if 0 ≤ Op.cmpValue (FP.fcmp Bq FP.fconst0) .g then some 0 else if Op.cmpValue (FP.fcmp (FP.fmul A (FP.fsub FP.fconst1 (Wg wt))) FP.fconst0) .l = 0 then (if Op.cmpValue (FP.fcmp (FP.fmul Bq (Wg wt)) FP.fconst0) .l = 0 then some 1 else some 0) else some 0) = some (if r = 2147483648 then (1 : Int32) else 0)
    generalize FP.fmul A (FP.fsub FP.fconst1 (Wg wt)) = P at *
    generalize FP.fmul Bq (Wg wt) = Q at *
    have k1 := neg_iff a7 (by omega) za
    have k2 := neg_iff b7 (by omega) zb
    have k3 := zero_iff n1
    have k4 := zero_iff n2
    have kr : r = 2147483648 → P = 2147483648 ∧ Q = 2147483648 := fun z => fadd_mz p1 p2 (by omega) (er'.trans z)
    by_cases c1 : 0 ≤ Op.cmpValue (FP.fcmp A FP.fconst0) .g
    · rw [if_pos c1, if_neg (fun z => by
        have := k1.mp c1
        rw [← g1, (kr z).1] at this
        exact absurd this (by decide +kernel))]
    · rw [if_neg c1]
      by_cases c2 : 0 ≤ Op.cmpValue (FP.fcmp Bq FP.fconst0) .g
      · rw [if_pos c2, if_neg (fun z => by
          have := k2.mp c2
          rw [← g2, (kr z).2] at this
          exact absurd this (by decide +kernel))]
      · rw [if_neg c2]
        by_cases c3 : Op.cmpValue (FP.fcmp P FP.fconst0) .l = 0
        · rw [if_pos c3]
          by_cases c4 : Op.cmpValue (FP.fcmp Q FP.fconst0) .l = 0
          · have sP : FP.Core.sgn (FP.Core.val32 P) = true := by
              rw [g1]
              cases hs : FP.Core.sgn (FP.Core.val32 A) with
              | true => rfl
              | false => exact absurd (k1.mpr hs) c1
            have sQ : FP.Core.sgn (FP.Core.val32 Q) = true := by
              rw [g2]
              cases hs : FP.Core.sgn (FP.Core.val32 Bq) with
              | true => rfl
              | false => exact absurd (k2.mpr hs) c2
            have eP := mz_of sP n1 (k3.mp c3)
            have eQ := mz_of sQ n2 (k4.mp c4)
            rw [if_pos c4, if_pos (by rw [← er', eP, eQ]; exact mz_mz)]
          · rw [if_neg c4, if_neg (fun z => c4 (k4.mpr (by rw [(kr z).2]; decide)))]
        · rw [if_neg c3, if_neg (fun z => c3 (k3.mpr (by rw [(kr z).1]; decide)))]
  · rw [decide_eq_false h, if_pos (show bI false = 0 from rfl)] at e ⊢
    have er := Option.some.inj e
    rw [if_neg (by rw [← er]; exact za)]
theorem d_mz : (FP.f2d 2147483648).toInt64 = -9223372036854775808 := by decide +kernel
theorem d_pz : (FP.f2d 0).toInt64 = 0 := by decide +kernel
theorem do_exact {l : Launch} {D : va_G} {B : Nat} {adK adV : Nat → Nat} {cC cF cI cZ cM cS : ClassId} {xa : Nat} {ad : Nat → Nat} {ya : Nat} {am : Nat → Nat} {σ : XS} {τ : RS} (hR : RR σ τ) (i : Int32) : B_exact l D B adK adV cC cF cI cZ cM cS xa ad ya am i σ τ := by
  have hR0 := hR
  obtain ⟨tx, told, draft, now, guess, past, stored, ist, np, un, sh⟩ := σ
  obtain ⟨mst, mwy, mmk, mwt, mvl, mof, mw, mf, mun, mik, mtx, mln, mfi, mbe, mrs, mrw, mcl, mdo, mnu, mwd, msz, mso, mpl⟩ := τ
  obtain ⟨h1, h2, h3, S, W, h4, u, p, m, hu, hp, eu, emu, ep, en, hok, hmr, hpa, hkp⟩ := hR
  simp only at h1 h2 h3 h4 eu emu ep en hmr hpa hkp
  subst eu emu ep en
  obtain ⟨tst, twy, tmk, twt, tvl, tpt⟩ := told
  have h4' := h4
  obtain ⟨f1, f2, f3, f4, ⟨mk, hmk, f5, f5'⟩, ⟨wt, hwt, f6, f6'⟩, f7, f8, f9⟩ := h4
  simp only at f1 f3 f5 f6 f7 f8 f9
  subst f1 f2 f3 f4 f5 f5' f6 f6'
  have hS := f8.1
  have fin : ∀ r : Int64, f_X5_exact (nI S) (nI mk) (nI wt) tvl m.1.2.2.2.1 m.2.1.2.2.2.1 i = some r → f_X6_exact (nI S) (nI mk) (nI wt) mvl mf i = some r → B_exact l D B adK adV cC cF cI cZ cM cS xa ad ya am i (tx, (nI S, nI W, nI mk, nI wt, tvl, tpt), draft, moT m, guess, past, stored, ist, nI p, nI u, sh) (nI S, nI W, nI mk, nI wt, mvl, mof, mw, mf, nI u, mik, mtx, mln, mfi, mbe, mrs, mrw, mcl, mdo, mnu, mwd, msz, mso, mpl) := by
    intro r e1 e2
    exact ⟨.long r, _, _, k_exact l D B adK adV cC cF cI cZ cM cS xa ad (tx, (nI S, nI W, nI mk, nI wt, tvl, tpt), draft, moT m, guess, past, stored, ist, nI p, nI u, sh) i r e1, k6_exact l D B adK adV cC cF cI cZ cM cS ya am (nI S, nI W, nI mk, nI wt, mvl, mof, mw, mf, nI u, mik, mtx, mln, mfi, mbe, mrs, mrw, mcl, mdo, mnu, mwd, msz, mso, mpl) i r e2, hR0⟩
  unfold f_X5_exact f_X6_exact f_X5_isLimb at fin
  rw [show f_X6_in i.toInt64 0 3 = f_X6_in i.toInt64 0 (nI 4 - 1).toInt64 from rfl] at fin
  rcases ix_cases i 4 (by omega) with hk | hk | ⟨c, hc, rfl⟩
  · exact fin (-2) (by rw [if_pos hk]; rfl) (by rw [in_lo hk]; rfl)
  · exact fin (-2) (by rw [if_neg (ge_neg (by omega) hk), if_pos (show (4 : Int32) ≤ i from hk)]; rfl) (by rw [in_hi (by omega) hk]; rfl)
  · rw [if_neg (nneg (by omega)), if_neg (show ¬ (4 : Int32) ≤ nI c by show ¬ nI 4 ≤ nI c; rw [le_nI (by omega) (by omega)]; omega), in_ok (by omega) hc] at fin
    simp only [Option.bind_some, if_neg o10] at fin
    by_cases hS0 : S = 0
    · subst hS0
      exact fin (-4) rfl rfl
    · have hSn : ¬ nI S = 0 := by show ¬ nI S = nI 0; rw [eq_nI (by omega) (by omega)]; exact hS0
      obtain ⟨r, e1, e2, e3⟩ := s_mixed (mk := mk) (W := W) hS hwt hc f7 hok hmr
      have em := s_minus (W := W) hS hwt hc (fun j hj => by rw [(f7 j hj).1]; exact (f7 j hj).2) hok e1
      rw [if_neg hSn, if_neg hSn, e1, e2, em] at fin
      simp only [Option.bind_some] at fin
      obtain ⟨n1, n2, n3⟩ := e3.fin
      have hd := zd_f2d (r := r) ⟨n1, rfl, n2⟩ (Nat.lt_of_lt_of_le n3 (Nat.pow_le_pow_right (by decide) (by omega)))
      simp only [gd_t hd.ok, q6_dbl hd.ok, Option.bind_some] at fin
      by_cases hz : r.toNat % 2 ^ 31 = 0
      · rw [if_pos ((zero_iff n1).mpr hz)] at fin
        by_cases hm : r = 2147483648
        · rw [if_pos hm] at fin
          exact fin (-9223372036854775808) (by rw [if_neg o10]) (by rw [hm, d_mz])
        · have h0 : r = 0 := by
            apply UInt32.toNat_inj.mp
            have h5 := r.toNat_lt
            have h6 : r.toNat ≠ 2147483648 := fun z => hm (UInt32.toNat_inj.mp z)
            show r.toNat = 0
            omega
          rw [if_neg hm] at fin
          exact fin 0 (by rw [if_pos rfl]) (by rw [h0, d_pz])
      · obtain ⟨-, q1⟩ := q_dbl e3 hz
        rw [if_neg (fun z => hz ((zero_iff n1).mp z)), q1] at fin
        exact fin _ rfl rfl
