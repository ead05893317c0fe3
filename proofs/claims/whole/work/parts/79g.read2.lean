/-! ===== reading: conditions, ways, states, in both ===== -/
section RE
variable {lt mtx mwd : Nat → Int32} {n a b W S : Nat}
theorem kp0 (mrw : Int32) (mof : Nat → Int32) (k v : Int32) : f_X6_keeps mrw 0 mof k v = some mof := rfl
theorem kp1 (hW : W < 12) {k : Nat} (hk : k < 7) (mof : Nat → Int32) (v : Int32) : f_X6_keeps (nI W) 1 mof (nI k) v = some (upd mof (8 * W + k) v) := by
  unfold f_X6_keeps
  rw [if_neg o10]
  simp (disch := omega) only [l8, mu_nI, ad_nI, gd_iok, cl_nI]
/-- what a condition writes in the reference -/
def OfC (W : Nat) (mof mof' : Nat → Int32) (c p : Nat) (v : Int32) : Prop := (∀ j, j < 8 * W + 4 → mof' j = mof j) ∧ mof' (8 * W + 4) = nI c ∧ mof' (8 * W + 5) = nI p ∧ mof' (8 * W + 6) = v
def PtC (W : Nat) (fpt : Nat → Int32) (c p : Nat) (v : Int32) : Nat → Int32 := upd (upd (upd fpt (W * 7 + 4) (nI c)) (W * 7 + 5) (nI p)) (W * 7 + 6) v
theorem ofc_1 (W : Nat) (mof : Nat → Int32) (c p : Nat) (v : Int32) : OfC W mof (upd (upd (upd (upd (upd mof (8 * W + 4) (nI c)) (8 * W + 5) 0) (8 * W + 6) 0) (8 * W + 5) (nI p)) (8 * W + 6) v) c p v := by
  refine ⟨fun j hj => ?_, ?_, ?_, ?_⟩
  · simp (disch := omega) only [upd_n]
  · simp (disch := omega) only [upd_n, upd_s]
  · simp (disch := omega) only [upd_n, upd_s]
  · simp (disch := omega) only [upd_s]
theorem ofc_0 (W : Nat) (mof : Nat → Int32) (c : Nat) (v : Int32) : OfC W mof (upd (upd (upd (upd mof (8 * W + 4) (nI c)) (8 * W + 5) 0) (8 * W + 6) 0) (8 * W + 6) v) c 0 v := by
  refine ⟨fun j hj => ?_, ?_, ?_, ?_⟩
  · simp (disch := omega) only [upd_n]
  · simp (disch := omega) only [upd_n, upd_s]
  · simp (disch := omega) only [upd_n, upd_s]; rfl
  · simp (disch := omega) only [upd_s]
theorem ofc_3 (W : Nat) (mof : Nat → Int32) (c p : Nat) : OfC W mof (upd (upd (upd (upd mof (8 * W + 4) (nI c)) (8 * W + 5) 0) (8 * W + 6) 0) (8 * W + 5) (nI p)) c p 0 := by
  refine ⟨fun j hj => ?_, ?_, ?_, ?_⟩
  · simp (disch := omega) only [upd_n]
  · simp (disch := omega) only [upd_n, upd_s]
  · simp (disch := omega) only [upd_s]
  · simp (disch := omega) only [upd_n, upd_s]
theorem put3 (hW : W < 12) (fpt : Nat → Int32) (c p : Nat) (v : Int32) {α : Type} (K : (Nat → Int32) → Option α) : ((f_X0_putPart fpt (nI W) 4 (nI c)).bind fun o16 => ((f_X0_putPart o16 (nI W) 5 (nI p)).bind fun o18 => ((f_X0_putPart o18 (nI W) 6 v).bind fun o20 => K o20))) = K (PtC W fpt c p v) := by
  rw [l4, l5, l6, p_putPart hW (by omega)]
  simp only [Option.bind_some]
  rw [p_putPart hW (by omega)]
  simp only [Option.bind_some]
  rw [p_putPart hW (by omega)]
  rfl
theorem le2 {k : Nat} {m : Nat} (h : nI k ≤ nI m) (hk : k < 2147483648) (hm : m < 2147483648) : k ≤ m := by rw [le_nI hk hm] at h; exact h
theorem cnh_tab : ∀ v, v ≤ 9 → ((some (bI (decide (3 = v)))).bind fun r1 => (if r1 = 0 then ((some (bI (decide (4 = v)))).bind fun r4 => (if r4 = 0 then ((some (bI (decide (5 = v)))).bind fun r7 => (if r7 = 0 then ((some (bI (decide (6 = v)))).bind fun r10 => (if r10 = 0 then (some (-1)) else (some 3))) else (some 2))) else (some 1))) else (some 0))) = some (cnI v) := by decide +kernel
theorem cn_here {v : Nat} (hv : v ≤ 9) (w5 : ∀ u, u < 9 → f_X4_isWord (nI a) (nI b) lt u = some (bI (decide (u = v)))) : f_X4_conditionHere (nI a) (nI b) lt = some (cnI v) := by
  unfold f_X4_conditionHere
  rw [w5 3 (by omega), w5 4 (by omega), w5 5 (by omega), w5 6 (by omega)]
  exact cnh_tab v hv
/-- a condition, in both -/
def CnB (lt mtx mwd : Nat → Int32) (n a b W : Nat) : Prop :=
    (∃ a' b', Tk lt n a' b' ∧ (∀ tam fpt, ∃ tam', f_X4_readCondition (nI n) (nI a) (nI b) tam lt (nI W) fpt = some (0, fpt, nI a', nI b', tam', nI W)) ∧ (∀ mnu mof, ∃ mnu', f_X6_takesCondition (nI n) (nI a) (nI b) (nI W) 0 mnu mof mtx mwd = some (0, mof, nI a', nI b', mnu'))) ∨
    ∃ a' b' c p v, Tk lt n a' b' ∧ c < 4 ∧ p < 3 ∧ (∀ tam fpt, ∃ tam', f_X4_readCondition (nI n) (nI a) (nI b) tam lt (nI W) fpt = some (1, PtC W fpt c p v, nI a', nI b', tam', nI (W + 1))) ∧ (∀ mnu mof, ∃ mnu', f_X6_takesCondition (nI n) (nI a) (nI b) (nI W) 0 mnu mof mtx mwd = some (1, mof, nI a', nI b', mnu')) ∧ (∀ mnu mof, ∃ mof' mnu', f_X6_takesCondition (nI n) (nI a) (nI b) (nI W) 1 mnu mof mtx mwd = some (1, mof', nI a', nI b', mnu') ∧ OfC W mof mof' c p v)
theorem z0k : zok 0 := Or.inl rfl
theorem z1k : zok 1 := Or.inr rfl
theorem k4p (hW : W < 12) (mof : Nat → Int32) (v : Int32) : f_X6_keeps (nI W) 1 mof 4 v = some (upd mof (8 * W + 4) v) := kp1 hW (k := 4) (by omega) mof v
theorem k5p (hW : W < 12) (mof : Nat → Int32) (v : Int32) : f_X6_keeps (nI W) 1 mof 5 v = some (upd mof (8 * W + 5) v) := kp1 hW (k := 5) (by omega) mof v
theorem k6p (hW : W < 12) (mof : Nat → Int32) (v : Int32) : f_X6_keeps (nI W) 1 mof 6 v = some (upd mof (8 * W + 6) v) := kp1 hW (k := 6) (by omega) mof v
theorem cn_no (h : Tk lt n a b) (hc : f_X4_conditionHere (nI a) (nI b) lt = some (-1)) (w6 : f_X6_wordHere (nI n) (nI a) (nI b) mtx mwd 5 4 = some (-1)) : CnB lt mtx mwd n a b W := by
  refine Or.inl ⟨a, b, h, fun tam fpt => ⟨tam, ?_⟩, fun mnu mof => ⟨mnu, ?_⟩⟩
  · unfold f_X4_readCondition
    rw [hc, Option.bind_some, if_pos rfl]
  · unfold f_X6_takesCondition
    rw [w6, Option.bind_some, if_pos rfl]
theorem cn_0 (h : Tk lt n a b) (hT : Tx lt mtx n) (hW : W < 12) (hc : f_X4_conditionHere (nI a) (nI b) lt = some (nI 0)) (w6 : f_X6_wordHere (nI n) (nI a) (nI b) mtx mwd 5 4 = some (nI 0)) : CnB lt mtx mwd n a b W := by
  rcases up_both h.nx hT 99 with ⟨u1, u2⟩ | ⟨a', b', k, u0, u3, u4, u5, u1, u2⟩
  · refine Or.inl ⟨_, _, h.nx, fun tam fpt => ⟨tam, ?_⟩, fun mnu mof => ⟨mnu, ?_⟩⟩
    · unfold f_X4_readCondition
      rw [hc, Option.bind_some, if_neg (m1_ne 0 (by omega)), q_adv h, Option.bind_some]
      simp only [if_pos (show nI 0 = 0 from rfl)]
      rw [u1, Option.bind_some]
      exact if_pos rfl
    · unfold f_X6_takesCondition
      rw [w6, Option.bind_some, if_neg (m1_ne 0 (by omega)), q6_adv h hT, Option.bind_some]
      simp only [kp0, Option.bind_some, if_pos (show nI 0 = 0 from rfl)]
      rw [u2, Option.bind_some]
      simp only [kp0, Option.bind_some]
      rw [gd_t z0k]
  · refine Or.inr ⟨a', b', 0, 0, nI k, u0, by omega, by omega, fun tam fpt => ⟨nI k, ?_⟩, fun mnu mof => ⟨nI k, ?_⟩, fun mnu mof => ⟨_, nI k, ?_, ofc_0 W mof 0 (nI k)⟩⟩
    · unfold f_X4_readCondition
      rw [hc, Option.bind_some, if_neg (m1_ne 0 (by omega)), q_adv h, Option.bind_some]
      simp only [if_pos (show nI 0 = 0 from rfl)]
      rw [u1, Option.bind_some]
      simp only [if_neg o10]
      rw [show f_X0_putPart fpt (nI W) 4 (nI 0) = some (upd fpt (W * 7 + 4) (nI 0)) from p_putPart hW (k := 4) (by omega), Option.bind_some, show ∀ g, f_X0_putPart g (nI W) 5 0 = some (upd g (W * 7 + 5) (nI 0)) from fun g => p_putPart hW (k := 5) (by omega), Option.bind_some, show ∀ g, f_X0_putPart g (nI W) 6 (nI k) = some (upd g (W * 7 + 6) (nI k)) from fun g => p_putPart hW (k := 6) (by omega), Option.bind_some, ad1]
      rfl
    · unfold f_X6_takesCondition
      rw [w6, Option.bind_some, if_neg (m1_ne 0 (by omega)), q6_adv h hT, Option.bind_some]
      simp only [kp0, Option.bind_some, if_pos (show nI 0 = 0 from rfl)]
      rw [u2, Option.bind_some]
      simp only [kp0, Option.bind_some]
      rw [gd_t z1k]
    · unfold f_X6_takesCondition
      rw [w6, Option.bind_some, if_neg (m1_ne 0 (by omega)), q6_adv h hT, Option.bind_some]
      simp only [k4p hW, k5p hW, k6p hW, Option.bind_some, if_pos (show nI 0 = 0 from rfl)]
      rw [u2, Option.bind_some]
      simp only [k6p hW, Option.bind_some]
      rw [gd_t z1k]
theorem cn_3 (h : Tk lt n a b) (hT : Tx lt mtx n) (hW : W < 12) (hc : f_X4_conditionHere (nI a) (nI b) lt = some (nI 3)) (w6 : f_X6_wordHere (nI n) (nI a) (nI b) mtx mwd 5 4 = some (nI 3)) : CnB lt mtx mwd n a b W := by
  have n30 : ¬ nI 3 = 0 := by decide
  rcases up_both h.nx hT 2 with ⟨u1, u2⟩ | ⟨a', b', k, u0, u3, u4, u5, u1, u2⟩
  · refine Or.inl ⟨_, _, h.nx, fun tam fpt => ⟨tam, ?_⟩, fun mnu mof => ⟨mnu, ?_⟩⟩
    · unfold f_X4_readCondition
      rw [hc, Option.bind_some, if_neg (m1_ne 3 (by omega)), q_adv h, Option.bind_some]
      simp only [if_neg n30, if_pos (show nI 3 = 3 from rfl)]
      rw [u1, Option.bind_some]
      exact if_pos rfl
    · unfold f_X6_takesCondition
      rw [w6, Option.bind_some, if_neg (m1_ne 3 (by omega)), q6_adv h hT, Option.bind_some]
      simp only [kp0, Option.bind_some, if_neg n30]
      rw [u2, Option.bind_some]
      exact if_pos rfl
  · have hk := le2 (m := 2) u5 u3 (by omega)
    refine Or.inr ⟨a', b', 3, k, 0, u0, by omega, by omega, fun tam fpt => ⟨nI k, ?_⟩, fun mnu mof => ⟨nI k, ?_⟩, fun mnu mof => ⟨_, nI k, ?_, ofc_3 W mof 3 k⟩⟩
    · unfold f_X4_readCondition
      rw [hc, Option.bind_some, if_neg (m1_ne 3 (by omega)), q_adv h, Option.bind_some]
      simp only [if_neg n30, if_pos (show nI 3 = 3 from rfl)]
      rw [u1, Option.bind_some]
      simp only [if_neg o10]
      rw [show f_X0_putPart fpt (nI W) 4 (nI 3) = some (upd fpt (W * 7 + 4) (nI 3)) from p_putPart hW (k := 4) (by omega), Option.bind_some, show ∀ g, f_X0_putPart g (nI W) 5 (nI k) = some (upd g (W * 7 + 5) (nI k)) from fun g => p_putPart hW (k := 5) (by omega), Option.bind_some, show ∀ g, f_X0_putPart g (nI W) 6 0 = some (upd g (W * 7 + 6) 0) from fun g => p_putPart hW (k := 6) (by omega), Option.bind_some, ad1]
      rfl
    · unfold f_X6_takesCondition
      rw [w6, Option.bind_some, if_neg (m1_ne 3 (by omega)), q6_adv h hT, Option.bind_some]
      simp only [kp0, Option.bind_some, if_neg n30]
      rw [u2, Option.bind_some]
      simp only [kp0, Option.bind_some, if_neg o10, if_pos (show nI 3 = 3 from rfl)]
    · unfold f_X6_takesCondition
      rw [w6, Option.bind_some, if_neg (m1_ne 3 (by omega)), q6_adv h hT, Option.bind_some]
      simp only [k4p hW, k5p hW, k6p hW, Option.bind_some, if_neg n30]
      rw [u2, Option.bind_some]
      simp only [k5p hW, Option.bind_some, if_neg o10, if_pos (show nI 3 = 3 from rfl)]
theorem cn_1 {c : Nat} (hc4 : c < 4) (c0 : ¬ c = 0) (c3 : ¬ c = 3) (h : Tk lt n a b) (hT : Tx lt mtx n) (hW : W < 12) (hc : f_X4_conditionHere (nI a) (nI b) lt = some (nI c)) (w6 : f_X6_wordHere (nI n) (nI a) (nI b) mtx mwd 5 4 = some (nI c)) : CnB lt mtx mwd n a b W := by
  have n30 : ¬ nI c = 0 := by show ¬ nI c = nI 0; rw [eq_nI (by omega) (by omega)]; exact c0
  have n33 : ¬ nI c = 3 := by show ¬ nI c = nI 3; rw [eq_nI (by omega) (by omega)]; exact c3
  rcases up_both h.nx hT 2 with ⟨u1, u2⟩ | ⟨a', b', k, u0, u3, u4, u5, u1, u2⟩
  · refine Or.inl ⟨_, _, h.nx, fun tam fpt => ⟨tam, ?_⟩, fun mnu mof => ⟨mnu, ?_⟩⟩
    · unfold f_X4_readCondition
      rw [hc, Option.bind_some, if_neg (m1_ne c (by omega)), q_adv h, Option.bind_some]
      simp only [if_neg n30, if_neg n33]
      rw [u1, Option.bind_some]
      exact if_pos rfl
    · unfold f_X6_takesCondition
      rw [w6, Option.bind_some, if_neg (m1_ne c (by omega)), q6_adv h hT, Option.bind_some]
      simp only [kp0, Option.bind_some, if_neg n30]
      rw [u2, Option.bind_some]
      exact if_pos rfl
  · have hk := le2 (m := 2) u5 u3 (by omega)
    rcases sg_both u0 hT with ⟨a2, b2, s0, s1, s2⟩ | ⟨a2, b2, v2, s0, s3, s1, s2⟩
    · refine Or.inl ⟨a2, b2, s0, fun tam fpt => ⟨nI k, ?_⟩, fun mnu mof => ⟨nI k, ?_⟩⟩
      · unfold f_X4_readCondition
        rw [hc, Option.bind_some, if_neg (m1_ne c (by omega)), q_adv h, Option.bind_some]
        simp only [if_neg n30, if_neg n33]
        rw [u1, Option.bind_some]
        simp only [if_neg o10]
        rw [s1, Option.bind_some]
        exact if_pos rfl
      · unfold f_X6_takesCondition
        rw [w6, Option.bind_some, if_neg (m1_ne c (by omega)), q6_adv h hT, Option.bind_some]
        simp only [kp0, Option.bind_some, if_neg n30]
        rw [u2, Option.bind_some]
        simp only [kp0, Option.bind_some, if_neg o10, if_neg n33]
        rw [s2, Option.bind_some]
        simp only []
        rw [gd_t z0k]
    · refine Or.inr ⟨a2, b2, c, k, v2, s0, by omega, by omega, fun tam fpt => ⟨v2, ?_⟩, fun mnu mof => ⟨v2, ?_⟩, fun mnu mof => ⟨_, v2, ?_, ofc_1 W mof c k v2⟩⟩
      · unfold f_X4_readCondition
        rw [hc, Option.bind_some, if_neg (m1_ne c (by omega)), q_adv h, Option.bind_some]
        simp only [if_neg n30, if_neg n33]
        rw [u1, Option.bind_some]
        simp only [if_neg o10]
        rw [s1, Option.bind_some]
        simp only [if_neg o10]
        rw [show f_X0_putPart fpt (nI W) 4 (nI c) = some (upd fpt (W * 7 + 4) (nI c)) from p_putPart hW (k := 4) (by omega), Option.bind_some, show ∀ g, f_X0_putPart g (nI W) 5 (nI k) = some (upd g (W * 7 + 5) (nI k)) from fun g => p_putPart hW (k := 5) (by omega), Option.bind_some, show ∀ g, f_X0_putPart g (nI W) 6 v2 = some (upd g (W * 7 + 6) v2) from fun g => p_putPart hW (k := 6) (by omega), Option.bind_some, ad1]
        rfl
      · unfold f_X6_takesCondition
        rw [w6, Option.bind_some, if_neg (m1_ne c (by omega)), q6_adv h hT, Option.bind_some]
        simp only [kp0, Option.bind_some, if_neg n30]
        rw [u2, Option.bind_some]
        simp only [kp0, Option.bind_some, if_neg o10, if_neg n33]
        rw [s2, Option.bind_some]
        simp only []
        rw [gd_t z1k]
      · unfold f_X6_takesCondition
        rw [w6, Option.bind_some, if_neg (m1_ne c (by omega)), q6_adv h hT, Option.bind_some]
        simp only [k4p hW, k5p hW, k6p hW, Option.bind_some, if_neg n30]
        rw [u2, Option.bind_some]
        simp only [k5p hW, k6p hW, Option.bind_some, if_neg o10, if_neg n33]
        rw [s2, Option.bind_some]
        simp only [k6p hW, Option.bind_some]
        rw [gd_t z1k]
theorem cn_both (h : Tk lt n a b) (hT : Tx lt mtx n) (hwd : WTab mwd) (hW : W < 12) :
    (∃ a' b', Tk lt n a' b' ∧ (∀ tam fpt, ∃ tam', f_X4_readCondition (nI n) (nI a) (nI b) tam lt (nI W) fpt = some (0, fpt, nI a', nI b', tam', nI W)) ∧ (∀ mnu mof, ∃ mnu', f_X6_takesCondition (nI n) (nI a) (nI b) (nI W) 0 mnu mof mtx mwd = some (0, mof, nI a', nI b', mnu'))) ∨
    ∃ a' b' c p v, Tk lt n a' b' ∧ c < 4 ∧ p < 3 ∧ (∀ tam fpt, ∃ tam', f_X4_readCondition (nI n) (nI a) (nI b) tam lt (nI W) fpt = some (1, PtC W fpt c p v, nI a', nI b', tam', nI (W + 1))) ∧ (∀ mnu mof, ∃ mnu', f_X6_takesCondition (nI n) (nI a) (nI b) (nI W) 0 mnu mof mtx mwd = some (1, mof, nI a', nI b', mnu')) ∧ (∀ mnu mof, ∃ mof' mnu', f_X6_takesCondition (nI n) (nI a) (nI b) (nI W) 1 mnu mof mtx mwd = some (1, mof', nI a', nI b', mnu') ∧ OfC W mof mof' c p v) := by
  obtain ⟨v, hv, w5, w6, -⟩ := w_both h hT hwd
  have hc := cn_here hv w5
  by_cases hv36 : 3 ≤ v ∧ v ≤ 6
  · obtain ⟨c, hc4, rfl⟩ : ∃ c, c < 4 ∧ v = c + 3 := ⟨v - 3, by omega, by omega⟩
    have ec : cnI (c + 3) = nI c := by unfold cnI; rw [if_pos hv36]; congr 1
    rw [ec] at hc w6
    by_cases c0 : c = 0
    · subst c0; exact cn_0 h hT hW hc w6
    · by_cases c3 : c = 3
      · subst c3; exact cn_3 h hT hW hc w6
      · exact cn_1 hc4 c0 c3 h hT hW hc w6
  · have ec : cnI v = -1 := by unfold cnI; rw [if_neg hv36]
    rw [ec] at hc w6
    exact cn_no h hc w6
/-- from, to and frames of a way, in both -/
def PtW (W : Nat) (fpt : Nat → Int32) (f t k : Nat) : Nat → Int32 := upd (upd (upd (upd fpt (W * 7 + 0) (nI f)) (W * 7 + 1) (nI t)) (W * 7 + 2) (nI k)) (W * 7 + 3) 0
def OfW (W : Nat) (mof : Nat → Int32) (f t k : Nat) : Nat → Int32 := upd (upd (upd (upd mof (8 * W + 0) (nI f)) (8 * W + 1) (nI t)) (8 * W + 2) (nI k)) (8 * W + 3) 0
def f5way (tln tts tte tam : Int32) (tlt : Nat → Int32) (fst fwy : Int32) (fpt : Nat → Int32) : Option (Int32 × (Nat → Int32) × Int32 × Int32 × Int32) := (f5from tln tts tte tam tlt fst).bind fun (r8, o9, o10, o11) => (if r8 = 0 then (some (0, fpt, o9, o10, o11)) else ((f_X0_putPart fpt fwy 0 o11).bind fun o14 => ((f_X4_readUpTo tln o9 o10 o11 tlt (fst - 1)).bind fun (r16, o17, o18, o19) => (if r16 = 0 then (some (0, o14, o17, o18, o19)) else ((f_X0_putPart o14 fwy 1 o19).bind fun o22 => ((f_X4_readFrames tln o17 o18 o19 tlt).bind fun (r24, o25, o26, o27) => (if r24 = 0 then (some (0, o22, o25, o26, o27)) else ((f_X0_putPart o22 fwy 2 o27).bind fun o30 => ((f_X0_putPart o30 fwy 3 0).bind fun o32 => (some (1, o32, o25, o26, o27)))))))))))
theorem way5 (tln tts tte tam : Int32) (tlt : Nat → Int32) (fst fwy : Int32) (fpt : Nat → Int32) : f_X4_readWay tln tts tte tam tlt fst fwy fpt = if fwy < 12 then ((f_X4_advance tln tte tlt).bind fun (o2, o3) => f5way tln o2 o3 tam tlt fst fwy fpt) else some (0, fpt, tts, tte, tam) := by
  unfold f_X4_readWay f5way f5from
  by_cases hw : fwy < 12
  · rw [if_pos hw, if_pos hw]
    cases f_X4_advance tln tte tlt with
    | none => rfl
    | some o =>
      obtain ⟨o2, o3⟩ := o
      simp only [Option.bind_some]
      cases f_X4_numberHere o2 o3 tlt with
      | none => rfl
      | some r =>
        simp only [Option.bind_some]
        by_cases h9 : r = 9
        · rw [if_pos h9, if_pos h9]
        · rw [if_neg h9, if_neg h9]
  · rw [if_neg hw, if_neg hw]
theorem wy_both (h : Tk lt n a b) (hT : Tx lt mtx n) (hwd : WTab mwd) (hS : S ≤ 6) (hW : W < 12) :
    (∃ a' b', Tk lt n a' b' ∧ ((∀ tam fpt, ∃ tam' fpt', f5way (nI n) (nI a) (nI b) tam lt (nI S) (nI W) fpt = some (0, fpt', nI a', nI b', tam')) ∨ (∃ a1 b1, ∀ tam fpt, ∃ tam' tam'' fpt' fpt'', f5way (nI n) (nI a) (nI b) tam lt (nI S) (nI W) fpt = some (1, fpt', nI a1, nI b1, tam') ∧ f_X4_readCondition (nI n) (nI a1) (nI b1) tam' lt (nI W) fpt' = some (0, fpt'', nI a', nI b', tam'', nI W))) ∧ (∀ mnu mof, ∃ mnu', f_X6_takesWay (nI n) (nI a) (nI b) (nI S) (nI W) 0 mnu mof mtx mwd = some (0, mof, nI a', nI b', nI W, mnu'))) ∨
    ∃ a' b' f t k c p v, Tk lt n a' b' ∧ (f < S ∨ f = 9) ∧ t < S ∧ k ∈ [0, 1, 2, 4, 8, 16] ∧ c < 4 ∧ p < 3 ∧ (∃ a1 b1, ∀ tam fpt, ∃ tam' tam'', f5way (nI n) (nI a) (nI b) tam lt (nI S) (nI W) fpt = some (1, PtW W fpt f t k, nI a1, nI b1, tam') ∧ f_X4_readCondition (nI n) (nI a1) (nI b1) tam' lt (nI W) (PtW W fpt f t k) = some (1, PtC W (PtW W fpt f t k) c p v, nI a', nI b', tam'', nI (W + 1))) ∧ (∀ mnu mof, ∃ mnu', f_X6_takesWay (nI n) (nI a) (nI b) (nI S) (nI W) 0 mnu mof mtx mwd = some (1, mof, nI a', nI b', nI (W + 1), mnu')) ∧ (∀ mnu mof, ∃ mof' mnu', f_X6_takesWay (nI n) (nI a) (nI b) (nI S) (nI W) 1 mnu mof mtx mwd = some (1, mof', nI a', nI b', nI (W + 1), mnu') ∧ OfC W (OfW W mof f t k) mof' c p v) := by
  have k0 : ∀ mof v, f_X6_keeps (nI W) 1 mof 0 v = some (upd mof (8 * W + 0) v) := fun mof v => kp1 hW (k := 0) (by omega) mof v
  have k1 : ∀ mof v, f_X6_keeps (nI W) 1 mof 1 v = some (upd mof (8 * W + 1) v) := fun mof v => kp1 hW (k := 1) (by omega) mof v
  have k2 : ∀ mof v, f_X6_keeps (nI W) 1 mof 2 v = some (upd mof (8 * W + 2) v) := fun mof v => kp1 hW (k := 2) (by omega) mof v
  have k3 : ∀ mof v, f_X6_keeps (nI W) 1 mof 3 v = some (upd mof (8 * W + 3) v) := fun mof v => kp1 hW (k := 3) (by omega) mof v
  have p0 : ∀ pt v, f_X0_putPart pt (nI W) 0 v = some (upd pt (W * 7 + 0) v) := fun pt v => p_putPart hW (k := 0) (by omega)
  have p1 : ∀ pt v, f_X0_putPart pt (nI W) 1 v = some (upd pt (W * 7 + 1) v) := fun pt v => p_putPart hW (k := 1) (by omega)
  have p2 : ∀ pt v, f_X0_putPart pt (nI W) 2 v = some (upd pt (W * 7 + 2) v) := fun pt v => p_putPart hW (k := 2) (by omega)
  have p3 : ∀ pt v, f_X0_putPart pt (nI W) 3 v = some (upd pt (W * 7 + 3) v) := fun pt v => p_putPart hW (k := 3) (by omega)
  unfold f5way f_X6_takesWay
  rcases fm_both hS h hT with ⟨u1, u2⟩ | ⟨a2, b2, f, t2, hf, u1, u2⟩
  · refine Or.inl ⟨a, b, h, Or.inl (fun tam fpt => ⟨tam, fpt, ?_⟩), fun mnu mof => ?_⟩
    · rw [u1]; rfl
    · obtain ⟨mnu', e⟩ := u2 mnu
      exact ⟨mnu', by rw [e]; rfl⟩
  · rcases up_both t2 hT (nI S - 1) with ⟨v1, v2⟩ | ⟨a3, b3, t, t3, v3, v4, v5, v1, v2⟩
    · refine Or.inl ⟨a2, b2, t2, Or.inl (fun tam fpt => ⟨nI f, upd fpt (W * 7 + 0) (nI f), ?_⟩), fun mnu mof => ⟨nI f, ?_⟩⟩
      · rw [u1]
        simp only [Option.bind_some, if_neg o10, p0]
        rw [v1]; rfl
      · rw [u2]
        simp only [Option.bind_some, if_neg o10, kp0]
        rw [v2]; rfl
    · have ht : t < S := by rw [toInt_le, nI_ti v3, m1_ti (by omega)] at v5; omega
      rcases fr_both t3 hT with ⟨w1, w2⟩ | ⟨a4, b4, k, t4, w3, w1, w2⟩
      · refine Or.inl ⟨a3, b3, t3, Or.inl (fun tam fpt => ⟨nI t, upd (upd fpt (W * 7 + 0) (nI f)) (W * 7 + 1) (nI t), ?_⟩), fun mnu mof => ?_⟩
        · rw [u1]
          simp only [Option.bind_some, if_neg o10, p0]
          rw [v1]
          simp only [Option.bind_some, if_neg o10, p1]
          rw [w1]; rfl
        · obtain ⟨mnu', e⟩ := w2 (nI t)
          refine ⟨mnu', ?_⟩
          rw [u2]
          simp only [Option.bind_some, if_neg o10, kp0]
          rw [v2]
          simp only [Option.bind_some, if_neg o10, kp0]
          rw [e]; rfl
      · rcases cn_both t4 hT hwd hW with ⟨a', b', x0, x1, x2⟩ | ⟨a', b', c, p, v, t5, hc, hp, x1, x2, x3⟩
        · refine Or.inl ⟨a', b', x0, Or.inr ⟨a4, b4, fun tam fpt => ?_⟩, fun mnu mof => ?_⟩
          · obtain ⟨tam'', e⟩ := x1 (nI k) (PtW W fpt f t k)
            refine ⟨nI k, tam'', PtW W fpt f t k, PtW W fpt f t k, ?_, e⟩
            rw [u1]
            simp only [Option.bind_some, if_neg o10, p0]
            rw [v1]
            simp only [Option.bind_some, if_neg o10, p1]
            rw [w1]
            simp only [Option.bind_some, if_neg o10, p2, p3]
            rfl
          · obtain ⟨mnu', e⟩ := x2 (nI k) mof
            refine ⟨mnu', ?_⟩
            rw [u2]
            simp only [Option.bind_some, if_neg o10, kp0]
            rw [v2]
            simp only [Option.bind_some, if_neg o10, kp0]
            rw [w2]
            simp only [Option.bind_some, if_neg o10, kp0]
            rw [e]; rfl
        · refine Or.inr ⟨a', b', f, t, k, c, p, v, t5, hf, ht, w3, hc, hp, ⟨a4, b4, fun tam fpt => ?_⟩, fun mnu mof => ?_, fun mnu mof => ?_⟩
          · obtain ⟨tam'', e⟩ := x1 (nI k) (PtW W fpt f t k)
            refine ⟨nI k, tam'', ?_, e⟩
            rw [u1]
            simp only [Option.bind_some, if_neg o10, p0]
            rw [v1]
            simp only [Option.bind_some, if_neg o10, p1]
            rw [w1]
            simp only [Option.bind_some, if_neg o10, p2, p3]
            rfl
          · obtain ⟨mnu', e⟩ := x2 (nI k) mof
            refine ⟨mnu', ?_⟩
            rw [u2]
            simp only [Option.bind_some, if_neg o10, kp0]
            rw [v2]
            simp only [Option.bind_some, if_neg o10, kp0]
            rw [w2]
            simp only [Option.bind_some, if_neg o10, kp0]
            rw [e]
            simp only [Option.bind_some, if_neg o10, ad1]
          · obtain ⟨mof', mnu', e, e'⟩ := x3 (nI k) (OfW W mof f t k)
            refine ⟨mof', mnu', ?_, e'⟩
            rw [u2]
            simp only [Option.bind_some, if_neg o10, k0]
            rw [v2]
            simp only [Option.bind_some, if_neg o10, k1]
            rw [w2]
            simp only [Option.bind_some, if_neg o10, k2, k3]
            have e2 : f_X6_takesCondition (nI n) (nI a4) (nI b4) (nI W) 1 (nI k) (upd (upd (upd (upd mof (8 * W + 0) (nI f)) (8 * W + 1) (nI t)) (8 * W + 2) (nI k)) (8 * W + 3) 0) mtx mwd = some (1, mof', nI a', nI b', mnu') := e
            rw [e2]
            simp only [Option.bind_some, if_neg o10, ad1]
/-- the values of a state, in both -/
theorem st_both_L (hT : Tx lt mtx n) (hS : S < 6) (fvl : Nat → Int32) : ∀ (k m m' x a b : Nat) (tam mnu0 mnu1 : Int32) (tsv gvl : Nat → Int32), k = 4 - x → x ≤ 4 → k < m → k < m' → Tk lt n a b → (∀ j, j < x → gvl (4 * S + j) = tsv j ∧ VOK (tsv j)) →
    (∃ a' b' tsv' tam' mnu', Tk lt n a' b' ∧ f_X4_readState_L17 (nI S) fvl (nI n) lt m (nI x) (nI a) (nI b) tam tsv = some (0, tsv', fvl, nI a', nI b', tam', nI S) ∧ ∀ mvl, f_X6_takesState_L2 (nI S) (nI n) mtx 0 m' (nI x) (nI a) (nI b) mnu0 mvl = some (0, mvl, nI a', nI b', nI S, mnu')) ∨
    ∃ a' b' tsv' tam' mnu' mnu'' gvl', Tk lt n a' b' ∧ f_X4_readState_L17 (nI S) fvl (nI n) lt m (nI x) (nI a) (nI b) tam tsv = some (1, tsv', va_cpy tsv' fvl 0 (S * 4) 4, nI a', nI b', tam', nI (S + 1)) ∧ (∀ mvl, f_X6_takesState_L2 (nI S) (nI n) mtx 0 m' (nI x) (nI a) (nI b) mnu0 mvl = some (1, mvl, nI a', nI b', nI (S + 1), mnu')) ∧ f_X6_takesState_L2 (nI S) (nI n) mtx 1 m' (nI x) (nI a) (nI b) mnu1 gvl = some (1, gvl', nI a', nI b', nI (S + 1), mnu'') ∧ (∀ j, j < 4 → gvl' (4 * S + j) = tsv' j ∧ VOK (tsv' j)) ∧ (∀ j, j < 4 * S → gvl' j = gvl j) := by
  intro k
  induction k with
  | zero =>
    intro m m' x a b tam mnu0 mnu1 tsv gvl hk hx hm hm' hk0 hg
    obtain ⟨m, rfl⟩ : ∃ q, m = q + 1 := ⟨m - 1, by omega⟩
    obtain ⟨m', rfl⟩ : ∃ q, m' = q + 1 := ⟨m' - 1, by omega⟩
    have : x = 4 := by omega
    subst this
    unfold f_X4_readState_L17 f_X6_takesState_L2
    refine Or.inr ⟨a, b, tsv, tam, mnu0, mnu1, gvl, hk0, ?_, fun mvl => ?_, ?_, hg, fun j _ => rfl⟩
    · rw [if_pos (show (4 : Int32) ≤ nI 4 by decide)]
      have e : nI S * 4 = nI (S * 4) := by rw [l4, mu_nI]
      rw [gd_t (by
        rw [e, cl_nI (by omega)]
        exact ⟨by decide, nneg (by omega), by decide, by omega, by omega⟩), e, cl_nI (by omega), ad1]
    · rw [if_pos (show (4 : Int32) ≤ nI 4 by decide), ad1]
    · rw [if_pos (show (4 : Int32) ≤ nI 4 by decide), ad1]
  | succ k ih =>
    intro m m' x a b tam mnu0 mnu1 tsv gvl hk hx hm hm' hk0 hg
    obtain ⟨m, rfl⟩ : ∃ q, m = q + 1 := ⟨m - 1, by omega⟩
    obtain ⟨m', rfl⟩ : ∃ q, m' = q + 1 := ⟨m' - 1, by omega⟩
    have hx4 : ¬ (4 : Int32) ≤ nI x := by show ¬ nI 4 ≤ nI x; rw [le_nI (by omega) (by omega)]; omega
    unfold f_X4_readState_L17 f_X6_takesState_L2
    simp only [if_neg hx4]
    rcases sg_both hk0 hT with ⟨a2, b2, s0, s1, s2⟩ | ⟨a2, b2, v2, s0, s3, s1, s2⟩
    · refine Or.inl ⟨a2, b2, tsv, tam, mnu0, s0, ?_, fun mvl => ?_⟩
      · rw [s1]; rfl
      · rw [s2]; rfl
    · rw [s1]
      simp only [Option.bind_some, if_neg o10, s2]
      simp (disch := omega) only [gd_iok, cl_nI, if_true, l4, mu_nI, ad_nI, ad1]
      have I := ih m m' (x + 1) a2 b2 v2 v2 v2 (upd tsv x v2) (upd gvl (4 * S + x) v2) (by omega) (by omega) (by omega) (by omega) s0 (fun j hj => by
        by_cases hjx : j = x
        · subst hjx; rw [upd_s, upd_s]; exact ⟨rfl, s3⟩
        · rw [upd_n hjx, upd_n (by omega)]; exact hg j (by omega))
      rcases I with ⟨a', b', tsv', tam', mnu', i0, i1, i2⟩ | ⟨a', b', tsv', tam', mnu', mnu'', gvl', i0, i1, i2, i3, i4, i5⟩
      · exact Or.inl ⟨a', b', tsv', tam', mnu', i0, i1, i2⟩
      · exact Or.inr ⟨a', b', tsv', tam', mnu', mnu'', gvl', i0, i1, i2, i3, i4, fun j hj => by rw [i5 j hj, upd_n (by omega)]⟩
end RE
