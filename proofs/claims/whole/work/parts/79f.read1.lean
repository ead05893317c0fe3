/-! ===== reading: tokens, numbers, signs, in both ===== -/
def Tk (tx : Nat → Int32) (n a b : Nat) : Prop := n ≤ 200 ∧ a ≤ n ∧ b = tend tx n a
def Tx (lt mtx : Nat → Int32) (n : Nat) : Prop := ∀ j, j < n → lt j = mtx j
/-- the number that a token is, or -1 -/
def NV (tx : Nat → Int32) (a b : Nat) : Int32 := if b - a = 1 ∧ knd (tx a) = 1 then tx a - 48 else if b - a = 2 ∧ knd (tx a) = 1 then (tx a - 48) * 10 + tx (a + 1) - 48 else -1
theorem NV1 {tx : Nat → Int32} {a b : Nat} (h : b - a = 1) (hk : knd (tx a) = 1) : NV tx a b = tx a - 48 := if_pos ⟨h, hk⟩
theorem NV2 {tx : Nat → Int32} {a b : Nat} (h : b - a = 2) (hk : knd (tx a) = 1) : NV tx a b = (tx a - 48) * 10 + tx (a + 1) - 48 := by
  unfold NV
  rw [if_neg (fun z => absurd z.1 (by omega)), if_pos ⟨h, hk⟩]
theorem NV0 {tx : Nat → Int32} {a b : Nat} (h : ¬ (b - a = 1 ∨ b - a = 2) ∨ ¬ knd (tx a) = 1) : NV tx a b = -1 := by
  unfold NV
  rw [if_neg (fun z => h.elim (fun g => g (Or.inl z.1)) (fun g => g z.2)), if_neg (fun z => h.elim (fun g => g (Or.inr z.1)) (fun g => g z.2))]
theorem e48 : (48 : Int32).toInt = 48 := by decide
theorem e57 : (57 : Int32).toInt = 57 := by decide
section RD
variable {lt mtx : Nat → Int32} {n a b : Nat}
theorem Tk.bd (h : Tk lt n a b) : a ≤ b ∧ b ≤ n ∧ (a < n → a < b) := by
  obtain ⟨h1, h2, rfl⟩ := h
  exact tend_in h2
theorem Tk.nx (h : Tk lt n a b) : Tk lt n (tsta lt n b) (tend lt n (tsta lt n b)) := ⟨h.1, (tsta_in h.bd.2.1).2, rfl⟩
theorem Tk.end (h : Tk lt n a b) (e : ¬ a < n) : b - a = 0 := by
  obtain ⟨h1, h2, rfl⟩ := h
  unfold tend
  rw [if_neg e]
  omega
theorem q_adv (h : Tk lt n a b) : f_X4_advance (nI n) (nI b) lt = some (nI (tsta lt n b), nI (tend lt n (tsta lt n b))) := q_advance h.1 h.bd.2.1
theorem q6_adv (h : Tk lt n a b) (hT : Tx lt mtx n) : f_X6_nextToken (nI n) (nI b) mtx = some (nI (tsta lt n b), nI (tend lt n (tsta lt n b))) := by
  have e : tsta lt n b = tsta mtx n b := tsta_congr hT h.bd.2.1
  rw [q6_nextToken h.1 h.bd.2.1, e, tend_congr hT]
theorem q_num (h : Tk lt n a b) : f_X4_numberHere (nI a) (nI b) lt = some (NV lt a b) := by
  have hb := h.bd
  have hn := h.1
  have hs : nI b - nI a = nI (b - a) := sb_nI hb.1
  unfold f_X4_numberHere NV
  simp only [hs]
  by_cases h0 : b - a < 1
  · rw [if_pos (show nI (b - a) < 1 by show nI (b - a) < nI 1; rw [lt_nI (by omega) (by omega)]; exact h0), if_neg (fun z => absurd z.1 (by omega)), if_neg (fun z => absurd z.1 (by omega))]
  · rw [if_neg (show ¬ nI (b - a) < 1 by show ¬ nI (b - a) < nI 1; rw [lt_nI (by omega) (by omega)]; exact h0)]
    by_cases h2 : b - a ≤ 2
    · rw [if_pos (show nI (b - a) ≤ 2 by show nI (b - a) ≤ nI 2; rw [le_nI (by omega) (by omega)]; exact h2), gd_iok (show a < 200 by omega) (by omega), cl_nI (by omega)]
      by_cases hk : knd (lt a) = 1
      · obtain ⟨k1, k2⟩ := (knd1 _).mp hk
        rw [if_neg (show ¬ lt a < 48 by rw [toInt_lt]; rw [toInt_le] at k1; omega), if_pos k2]
        by_cases h1 : b - a = 1
        · rw [if_pos (show nI (b - a) = 1 by rw [h1]; rfl), if_pos ⟨h1, hk⟩]
        · rw [if_neg (show ¬ nI (b - a) = 1 by show ¬ nI (b - a) = nI 1; rw [eq_nI (by omega) (by omega)]; exact h1), if_neg (fun z => h1 z.1), if_pos ⟨by omega, hk⟩, ad1, gd_iok (by omega) (by omega), cl_nI (by omega)]
      · rw [if_neg (show ¬ (b - a = 1 ∧ knd (lt a) = 1) from fun z => hk z.2), if_neg (show ¬ (b - a = 2 ∧ knd (lt a) = 1) from fun z => hk z.2)]
        by_cases k1 : lt a < 48
        · rw [if_pos k1]
        · rw [if_neg k1, if_neg (fun z => hk ((knd1 _).mpr ⟨by rw [toInt_le]; rw [toInt_lt] at k1; omega, z⟩))]
    · rw [if_neg (show ¬ nI (b - a) ≤ 2 by show ¬ nI (b - a) ≤ nI 2; rw [le_nI (by omega) (by omega)]; exact h2), if_neg (fun z => absurd z.1 (by omega)), if_neg (fun z => absurd z.1 (by omega))]
theorem q_up (h : Tk lt n a b) (tam mo : Int32) : f_X4_readUpTo (nI n) (nI a) (nI b) tam lt mo = if 0 ≤ NV lt a b ∧ NV lt a b ≤ mo then some (1, nI (tsta lt n b), nI (tend lt n (tsta lt n b)), NV lt a b) else some (0, nI a, nI b, tam) := by
  unfold f_X4_readUpTo
  rw [q_num h, q_adv h]
  simp only [Option.bind_some]
  by_cases h0 : NV lt a b < 0
  · rw [if_pos h0, if_neg (fun z => by have := z.1; rw [toInt_le] at this; rw [toInt_lt] at h0; omega)]
  · rw [if_neg h0]
    have h1 : 0 ≤ NV lt a b := by rw [toInt_le]; rw [toInt_lt] at h0; omega
    by_cases h2 : NV lt a b ≤ mo
    · rw [if_pos h2, if_pos ⟨h1, h2⟩]
    · rw [if_neg h2, if_neg (fun z => h2 z.2)]
theorem q6_in2 (x hi : Int32) {α : Type} (A B : Option α) : ((f_X6_in x.toInt64 (0 : Int32).toInt64 hi.toInt64).bind fun r => if r = 0 then B else A) = if 0 ≤ x ∧ x ≤ hi then A else B := by
  rw [q6_in]
  simp only [Option.bind_some]
  by_cases h1 : 0 ≤ x
  · by_cases h2 : x ≤ hi
    · rw [decide_eq_true h1, decide_eq_true h2, if_neg (by decide), if_pos ⟨h1, h2⟩]
    · rw [decide_eq_false h2, Bool.and_false, if_pos (by decide), if_neg (fun z => h2 z.2)]
  · rw [decide_eq_false h1, Bool.false_and, if_pos (by decide), if_neg (fun z => h1 z.1)]
theorem m10 (x : Int32) : (10 : Int32) * x = x * 10 := Int32.mul_comm _ _
theorem neg1 (hi : Int32) : ¬ (0 ≤ (-1 : Int32) ∧ (-1 : Int32) ≤ hi) := fun z => absurd z.1 (by decide)
theorem q6_num (h : Tk lt n a b) (hT : Tx lt mtx n) (mnu hi : Int32) : f_X6_takesNumber (nI n) (nI a) (nI b) mnu mtx 0 hi = if 0 ≤ NV lt a b ∧ NV lt a b ≤ hi then some (1, nI (tsta lt n b), nI (tend lt n (tsta lt n b)), NV lt a b) else some (0, nI a, nI b, mnu) := by
  have hb := h.bd
  have hn := h.1
  have han := h.2.1
  have hs : nI b - nI a = nI (b - a) := sb_nI hb.1
  unfold f_X6_takesNumber
  simp only [hs, m10]
  by_cases ha : a < n
  · rw [if_neg (show ¬ nI a = nI n by rw [eq_nI (by omega) (by omega)]; omega), gd_iok (show a < 200 by omega) (by omega), q6_isDigit]
    simp only [Option.bind_some]
    simp (disch := omega) only [cl_nI, gd_iok]
    rw [← hT a ha]
    by_cases hk : knd (lt a) = 1
    · rw [decide_eq_true hk, if_neg (show ¬ bI true = 0 by decide)]
      by_cases h2 : b - a ≤ 2
      · rw [if_pos (show nI (b - a) ≤ 2 by show nI (b - a) ≤ nI 2; rw [le_nI (by omega) (by omega)]; exact h2)]
        by_cases h1 : b - a = 1
        · rw [if_neg (show ¬ nI (b - a) = 2 by show ¬ nI (b - a) = nI 2; rw [eq_nI (by omega) (by omega)]; omega), q6_in2, NV1 h1 hk, q6_adv h hT]
          rfl
        · have h3 := hb.2.2 ha
          rw [if_pos (show nI (b - a) = 2 by rw [show b - a = 2 by omega]; rfl), ad1, gd_iok (by omega) (by omega), cl_nI (by omega), ← hT (a + 1) (by omega), q6_in2, NV2 (by omega) hk, q6_adv h hT]
          rfl
      · rw [if_neg (show ¬ nI (b - a) ≤ 2 by show ¬ nI (b - a) ≤ nI 2; rw [le_nI (by omega) (by omega)]; exact h2), NV0 (Or.inl (by omega)), if_neg (neg1 hi)]
    · rw [decide_eq_false hk, if_pos (show bI false = 0 from rfl), NV0 (Or.inr hk), if_neg (neg1 hi)]
  · have he := h.end ha
    rw [if_pos (show nI a = nI n by rw [show a = n by omega])]
    rw [NV0 (Or.inl (by omega)), if_neg (neg1 hi)]
theorem nv_nat {x : Int32} (h : 0 ≤ x) : ∃ k, k < 2147483648 ∧ x = nI k := by
  rw [toInt_le, ti0] at h
  have h2 := Int32.toInt_lt x
  have hk : x.toInt.toNat < 2147483648 := by omega
  refine ⟨x.toInt.toNat, hk, Int32.toInt_inj.mp ?_⟩
  rw [nI_ti hk]
  omega
/-- a number up to hi, in both -/
theorem up_both (h : Tk lt n a b) (hT : Tx lt mtx n) (hi : Int32) :
    ((∀ tam, f_X4_readUpTo (nI n) (nI a) (nI b) tam lt hi = some (0, nI a, nI b, tam)) ∧ (∀ mnu, f_X6_takesNumber (nI n) (nI a) (nI b) mnu mtx 0 hi = some (0, nI a, nI b, mnu))) ∨
    ∃ a' b' k, Tk lt n a' b' ∧ k < 2147483648 ∧ NV lt a b = nI k ∧ nI k ≤ hi ∧ (∀ tam, f_X4_readUpTo (nI n) (nI a) (nI b) tam lt hi = some (1, nI a', nI b', nI k)) ∧ (∀ mnu, f_X6_takesNumber (nI n) (nI a) (nI b) mnu mtx 0 hi = some (1, nI a', nI b', nI k)) := by
  by_cases hc : 0 ≤ NV lt a b ∧ NV lt a b ≤ hi
  · obtain ⟨k, hk, e⟩ := nv_nat hc.1
    refine Or.inr ⟨_, _, k, h.nx, hk, e, e ▸ hc.2, fun tam => ?_, fun mnu => ?_⟩
    · rw [q_up h, if_pos hc, e]
    · rw [q6_num h hT, if_pos hc, e]
  · refine Or.inl ⟨fun tam => ?_, fun mnu => ?_⟩
    · rw [q_up h, if_neg hc]
    · rw [q6_num h hT, if_neg hc]
/-- a letter by itself -/
theorem tk_one (h : Tk lt n a b) (ha : a < n) (hk : knd (lt a) = 0) : b - a = 1 := by
  obtain ⟨h1, h2, rfl⟩ := h
  unfold tend
  rw [if_pos ha, hk, rn0]
  omega
theorem q_isSign (h : Tk lt n a b) (c : Int32) (hc : knd c = 0) : f_X4_isSign (nI a) (nI b) lt c = some (bI (decide (a < n ∧ lt a = c))) := by
  have hb := h.bd
  have hn := h.1
  have hs : nI b - nI a = nI (b - a) := sb_nI hb.1
  unfold f_X4_isSign
  simp only [hs]
  by_cases h1 : b - a = 1
  · have ha : a < n := by
      by_cases ha : a < n
      · exact ha
      · have := h.end ha; omega
    rw [if_pos (show nI (b - a) = 1 by rw [h1]; rfl), gd_iok (show a < 200 by omega) (by omega), cl_nI (by omega)]
    by_cases h2 : lt a = c
    · rw [if_pos h2, decide_eq_true ⟨ha, h2⟩]; rfl
    · rw [if_neg h2, decide_eq_false (fun z => h2 z.2)]; rfl
  · rw [if_neg (show ¬ nI (b - a) = 1 by show ¬ nI (b - a) = nI 1; rw [eq_nI (by omega) (by omega)]; exact h1), decide_eq_false (fun z => h1 (tk_one h z.1 (by rw [z.2]; exact hc)))]
    rfl
theorem VOK_n {k : Nat} (h : nI k ≤ 99) (hk : k < 2147483648) : VOK (nI k) ∧ VOK (-(nI k)) := by
  rw [toInt_le, nI_ti hk] at h
  have e : (99 : Int32).toInt = 99 := by decide
  rw [e] at h
  unfold VOK
  rw [Int32.toInt_neg, nI_ti hk, Int.bmod_eq_of_le (by omega) (by omega)]
  omega
/-- a number or - and a number, in both -/
theorem sg_both (h : Tk lt n a b) (hT : Tx lt mtx n) :
    (∃ a' b', Tk lt n a' b' ∧ (∀ tam, f_X4_readSigned (nI n) (nI a) (nI b) tam lt = some (0, nI a', nI b', tam)) ∧ (∀ mnu, f_X6_takesValue (nI n) (nI a) (nI b) mnu mtx = some (0, nI a', nI b', mnu))) ∨
    ∃ a' b' v, Tk lt n a' b' ∧ VOK v ∧ (∀ tam, f_X4_readSigned (nI n) (nI a) (nI b) tam lt = some (1, nI a', nI b', v)) ∧ (∀ mnu, f_X6_takesValue (nI n) (nI a) (nI b) mnu mtx = some (1, nI a', nI b', v)) := by
  have hn := h.1
  have han := h.2.1
  have hs := q_isSign h 45 (by decide)
  unfold f_X4_readSigned f_X6_takesValue
  rw [hs]
  simp only [Option.bind_some]
  by_cases hm : a < n ∧ lt a = 45
  · rw [decide_eq_true hm]
    simp only [if_neg (show ¬ bI true = 0 by decide), q_adv h, if_neg (show ¬ nI n ≤ nI a by rw [le_nI (by omega) (by omega)]; omega), gd_iok (show a < 200 by omega) (show 200 < 2147483648 by omega), cl_nI (show a < 2147483648 by omega), if_pos (show mtx a = 45 by rw [← hT a hm.1]; exact hm.2), q6_adv h hT, Option.bind_some]
    rcases up_both h.nx hT 99 with ⟨u1, u2⟩ | ⟨a', b', k, u0, u3, u4, u5, u1, u2⟩
    · refine Or.inl ⟨_, _, h.nx, fun tam => ?_, fun mnu => ?_⟩
      · rw [u1]; rfl
      · rw [u2]; rfl
    · refine Or.inr ⟨a', b', -(nI k), u0, (VOK_n u5 u3).2, fun tam => ?_, fun mnu => ?_⟩
      · rw [u1]; rfl
      · rw [u2]; rfl
  · rw [decide_eq_false hm]
    simp only [if_pos (show bI false = 0 from rfl)]
    by_cases ha : a < n
    · simp only [if_neg (show ¬ nI n ≤ nI a by rw [le_nI (by omega) (by omega)]; omega), gd_iok (show a < 200 by omega) (show 200 < 2147483648 by omega), cl_nI (show a < 2147483648 by omega), if_neg (show ¬ mtx a = 45 by rw [← hT a ha]; exact fun z => hm ⟨ha, z⟩)]
      rcases up_both h hT 99 with ⟨u1, u2⟩ | ⟨a', b', k, u0, u3, u4, u5, u1, u2⟩
      · refine Or.inl ⟨a, b, h, fun tam => ?_, fun mnu => ?_⟩
        · rw [u1]; rfl
        · rw [u2]; rfl
      · refine Or.inr ⟨a', b', nI k, u0, (VOK_n u5 u3).1, fun tam => ?_, fun mnu => ?_⟩
        · rw [u1]; rfl
        · rw [u2]; rfl
    · simp only [if_pos (show nI n ≤ nI a by rw [le_nI (by omega) (by omega)]; omega)]
      rcases up_both h hT 99 with ⟨u1, u2⟩ | ⟨a', b', k, u0, u3, u4, u5, u1, u2⟩
      · refine Or.inl ⟨a, b, h, fun tam => ?_, fun mnu => ?_⟩
        · rw [u1]; rfl
        · rw [u2]; rfl
      · refine Or.inr ⟨a', b', nI k, u0, (VOK_n u5 u3).1, fun tam => ?_, fun mnu => ?_⟩
        · rw [u1]; rfl
        · rw [u2]; rfl
theorem f_tab : ∀ k, k ≤ 16 → (((nI k &&& (nI k - 1)) = 0 ∧ f_X6_isFrames (nI k) = some 1 ∧ k ∈ [0, 1, 2, 4, 8, 16]) ∨ (¬ (nI k &&& (nI k - 1)) = 0 ∧ f_X6_isFrames (nI k) = some 0)) := by decide +kernel
/-- frames, in both -/
theorem fr_both (h : Tk lt n a b) (hT : Tx lt mtx n) :
    ((∀ tam, f_X4_readFrames (nI n) (nI a) (nI b) tam lt = some (0, nI a, nI b, tam)) ∧ (∀ mnu, ∃ mnu', f_X6_takesFrames (nI n) (nI a) (nI b) mnu mtx = some (0, nI a, nI b, mnu'))) ∨
    ∃ a' b' k, Tk lt n a' b' ∧ k ∈ [0, 1, 2, 4, 8, 16] ∧ (∀ tam, f_X4_readFrames (nI n) (nI a) (nI b) tam lt = some (1, nI a', nI b', nI k)) ∧ (∀ mnu, f_X6_takesFrames (nI n) (nI a) (nI b) mnu mtx = some (1, nI a', nI b', nI k)) := by
  unfold f_X4_readFrames f_X6_takesFrames
  rw [q_num h]
  simp only [Option.bind_some]
  rcases up_both h hT 16 with ⟨u1, u2⟩ | ⟨a', b', k, u0, u3, u4, u5, u1, u2⟩
  · refine Or.inl ⟨fun tam => ?_, fun mnu => ⟨mnu, ?_⟩⟩
    · rw [u1]
      by_cases c1 : NV lt a b < 0
      · rw [if_pos c1]
      · rw [if_neg c1]
        by_cases c2 : (NV lt a b &&& (NV lt a b - 1)) = 0
        · rw [if_pos c2]; rfl
        · rw [if_neg c2]
    · rw [u2]; rfl
  · have hk : k ≤ 16 := by
      have : nI k ≤ nI 16 := u5
      rw [le_nI (by omega) (by omega)] at this
      exact this
    rw [u4]
    simp only [if_neg (nneg u3)]
    rcases f_tab k hk with ⟨t1, t2, t3⟩ | ⟨t1, t2⟩
    · refine Or.inr ⟨a', b', k, u0, t3, fun tam => ?_, fun mnu => ?_⟩
      · rw [if_pos t1, u1]; rfl
      · rw [u2]
        simp only [Option.bind_some]
        rw [if_neg o10, t2]; rfl
    · refine Or.inl ⟨fun tam => ?_, fun mnu => ⟨nI k, ?_⟩⟩
      · rw [if_neg t1]
      · rw [u2]
        simp only [Option.bind_some]
        rw [if_neg o10, t2]; rfl
/-- from a state, or any, in both -/
def f5from (tln tts tte tam : Int32) (tlt : Nat → Int32) (fst : Int32) : Option (Int32 × Int32 × Int32 × Int32) := (f_X4_numberHere tts tte tlt).bind fun r5 => if r5 = 9 then f_X4_readUpTo tln tts tte tam tlt 9 else f_X4_readUpTo tln tts tte tam tlt (fst - 1)
theorem fm_both {S : Nat} (hS : S ≤ 6) (h : Tk lt n a b) (hT : Tx lt mtx n) :
    ((∀ tam, f5from (nI n) (nI a) (nI b) tam lt (nI S) = some (0, nI a, nI b, tam)) ∧ (∀ mnu, ∃ mnu', f_X6_takesFrom (nI n) (nI a) (nI b) (nI S) mnu mtx = some (0, nI a, nI b, mnu'))) ∨
    ∃ a' b' k, Tk lt n a' b' ∧ (k < S ∨ k = 9) ∧ (∀ tam, f5from (nI n) (nI a) (nI b) tam lt (nI S) = some (1, nI a', nI b', nI k)) ∧ (∀ mnu, f_X6_takesFrom (nI n) (nI a) (nI b) (nI S) mnu mtx = some (1, nI a', nI b', nI k)) := by
  unfold f5from f_X6_takesFrom
  rw [q_num h]
  simp only [Option.bind_some]
  rcases up_both h hT 9 with ⟨u1, u2⟩ | ⟨a', b', k, u0, u3, u4, u5, u1, u2⟩
  · refine Or.inl ⟨fun tam => ?_, fun mnu => ⟨mnu, ?_⟩⟩
    · by_cases c9 : NV lt a b = 9
      · rw [if_pos c9, u1]
      · rw [if_neg c9]
        rcases up_both h hT (nI S - 1) with ⟨v1, v2⟩ | ⟨a', b', k, v0, v3, v4, v5, v1, v2⟩
        · rw [v1]
        · exfalso
          have w := u2 0
          rw [q6_num h hT, v4] at w
          rw [toInt_le, nI_ti v3, m1_ti (by omega)] at v5
          rw [if_pos ⟨by show nI 0 ≤ nI k; rw [le_nI (by omega) (by omega)]; omega, by show nI k ≤ nI 9; rw [le_nI (by omega) (by omega)]; omega⟩] at w
          have := congrArg (fun o => (o.map Prod.fst)) w
          simp at this
    · rw [u2]; rfl
  · have hk : k ≤ 9 := by
      have : nI k ≤ nI 9 := u5
      rw [le_nI (by omega) (by omega)] at this
      exact this
    rw [u4]
    by_cases c9 : k = 9
    · subst c9
      refine Or.inr ⟨a', b', 9, u0, Or.inr rfl, fun tam => ?_, fun mnu => ?_⟩
      · rw [if_pos (show nI 9 = 9 from rfl), u1]
      · rw [u2]; rfl
    · simp only [if_neg (show ¬ nI k = 9 by show ¬ nI k = nI 9; rw [eq_nI (by omega) (by omega)]; exact c9)]
      by_cases cS : k < S
      · refine Or.inr ⟨a', b', k, u0, Or.inl cS, fun tam => ?_, fun mnu => ?_⟩
        · have w := u1 tam
          rw [q_up h] at w ⊢
          have h0 : 0 ≤ NV lt a b := by rw [u4]; show nI 0 ≤ nI k; rw [le_nI (by omega) (by omega)]; omega
          rw [if_pos ⟨h0, by rw [u4]; exact u5⟩] at w
          rw [if_pos ⟨h0, by rw [u4, toInt_le, nI_ti u3, m1_ti (by omega)]; omega⟩]
          exact w
        · rw [u2]
          simp only [Option.bind_some]
          rw [if_neg o10, if_neg (show ¬ nI k = 9 by show ¬ nI k = nI 9; rw [eq_nI (by omega) (by omega)]; exact c9), if_pos (show nI k < nI S by rw [lt_nI (by omega) (by omega)]; exact cS)]
      · refine Or.inl ⟨fun tam => ?_, fun mnu => ⟨nI k, ?_⟩⟩
        · rw [q_up h, if_neg (fun z => by have := z.2; rw [u4, toInt_le, nI_ti u3, m1_ti (by omega)] at this; omega)]
        · rw [u2]
          simp only [Option.bind_some]
          rw [if_neg o10, if_neg (show ¬ nI k = 9 by show ¬ nI k = nI 9; rw [eq_nI (by omega) (by omega)]; exact c9), if_neg (show ¬ nI k < nI S by rw [lt_nI (by omega) (by omega)]; exact cS)]
/-- which word a token is -/
theorem wd_v (tx : Nat → Int32) (a b : Nat) : ∃ v, v ≤ 9 ∧ ∀ u, u < 9 → wd tx a b u = decide (u = v) := by
  by_cases h : ∃ v, v < 9 ∧ wd tx a b v = true
  · obtain ⟨v, hv, e⟩ := h
    refine ⟨v, by omega, fun u hu => ?_⟩
    by_cases hc : u = v
    · subst hc; rw [e, decide_eq_true rfl]
    · rw [decide_eq_false hc]
      cases hw : wd tx a b u with
      | false => rfl
      | true => exact absurd (wd_one hu hv hw e) hc
  · refine ⟨9, by omega, fun u hu => ?_⟩
    rw [decide_eq_false (show ¬ u = 9 by omega)]
    cases hw : wd tx a b u with
    | false => rfl
    | true => exact absurd ⟨u, hu, hw⟩ h
theorem fnd_congr {g g' : Nat → Bool} {i : Nat} : ∀ (k w : Nat) (fd : Int32), (∀ x, x < w + k → g x = g' x) → fnd g i k w fd = fnd g' i k w fd := by
  intro k
  induction k with
  | zero => intro w fd _; rfl
  | succ k ih =>
    intro w fd h
    unfold fnd
    rw [h w (by omega)]
    exact ih (w + 1) _ (fun x hx => h x (by omega))
def cnI (v : Nat) : Int32 := if 3 ≤ v ∧ v ≤ 6 then nI (v - 3) else -1
def clI (v : Nat) : Int32 := if v ≤ 2 then nI v else if v = 7 then 3 else if v = 8 then 4 else -1
theorem fn_tab : ∀ v, v ≤ 9 → fnd (fun w => decide (wpm w = v)) 5 9 0 (-1) = cnI v ∧ fnd (fun w => decide (wpm w = v)) 0 5 0 (-1) = clI v := by decide +kernel
theorem w_both (h : Tk lt n a b) (hT : Tx lt mtx n) {mwd : Nat → Int32} (hW : WTab mwd) : ∃ v, v ≤ 9 ∧ (∀ u, u < 9 → f_X4_isWord (nI a) (nI b) lt u = some (bI (decide (u = v)))) ∧ f_X6_wordHere (nI n) (nI a) (nI b) mtx mwd 5 4 = some (cnI v) ∧ f_X6_wordHere (nI n) (nI a) (nI b) mtx mwd 0 5 = some (clI v) := by
  have hb := h.bd
  have hn := h.1
  obtain ⟨v, hv, e⟩ := wd_v lt a b
  have e6 : ∀ w, w < 9 → wd mtx a b (wpm w) = decide (wpm w = v) := fun w hw => by
    rw [← wd_congr hT hb.2.1]
    exact e _ (w_tab w hw).1
  refine ⟨v, hv, fun u hu => ?_, ?_, ?_⟩
  · rw [q_isWord hu hb.1 (by omega), e u hu]
  · have q := q6_wordHere (mwd := mwd) (mtx := mtx) (n := n) (a := a) (b := b) (i := 5) (k0 := 4) hW hn h.2.1 hb.1 hb.2.1 (by omega)
    rw [fnd_congr (g' := fun w => decide (wpm w = v)) _ _ _ (fun x hx => e6 x (by omega)), (fn_tab v hv).1] at q
    exact q
  · have q := q6_wordHere (mwd := mwd) (mtx := mtx) (n := n) (a := a) (b := b) (i := 0) (k0 := 5) hW hn h.2.1 hb.1 hb.2.1 (by omega)
    rw [fnd_congr (g' := fun w => decide (wpm w = v)) _ _ _ (fun x hx => e6 x (by omega)), (fn_tab v hv).2] at q
    exact q
end RD
