/-! ===== reach: both come to the closed set ===== -/
theorem m_tab : ∀ x, x < 64 → (∀ s, s < 6 → ((((nI x >>> (nI s &&& 31)) &&& 1) = 1) ↔ x.testBit s = true) ∧ nI x ||| ((1 : Int32) <<< (nI s &&& 31)) = nI (x ||| 2 ^ s)) := by decide +kernel
theorem m_or : ∀ x, x < 64 → ∀ y, y < 64 → nI x ||| nI y = nI (x ||| y) := by decide +kernel
theorem m_lt {x y : Nat} (hx : x < 64) (hy : y < 64) : x ||| y < 64 := Nat.or_lt_two_pow (n := 6) hx hy
theorem m_pow {s : Nat} (h : s < 6) : 2 ^ s < 64 := Nat.pow_lt_pow_right (a := 2) (n := 6) (by omega) h
/-- the targets of the ways that a test lets through -/
def orN (c : Nat → Bool) (to : Nat → Nat) : Nat → Nat → Nat → Nat
  | 0, _, acc => acc
  | k + 1, w, acc => orN c to k (w + 1) (if c w then acc ||| 2 ^ to w else acc)
theorem orN_lt {c : Nat → Bool} {to : Nat → Nat} {W : Nat} (ht : ∀ w, w < W → to w < 6) : ∀ (k w acc : Nat), w + k ≤ W → acc < 64 → orN c to k w acc < 64 := by
  intro k
  induction k with
  | zero => intro w acc _ h; exact h
  | succ k ih =>
    intro w acc hw h
    unfold orN
    apply ih (w + 1) _ (by omega)
    split
    · exact m_lt h (m_pow (ht w (by omega)))
    · exact h
theorem orN_bit {c : Nat → Bool} {to : Nat → Nat} (j : Nat) : ∀ (k w acc : Nat), (orN c to k w acc).testBit j = true ↔ (acc.testBit j = true ∨ ∃ v, w ≤ v ∧ v < w + k ∧ c v = true ∧ to v = j) := by
  intro k
  induction k with
  | zero =>
    intro w acc
    constructor
    · intro h; exact Or.inl h
    · rintro (h | ⟨v, h1, h2, -⟩)
      · exact h
      · omega
  | succ k ih =>
    intro w acc
    unfold orN
    rw [ih]
    constructor
    · rintro (h | ⟨v, h1, h2, h3, h4⟩)
      · by_cases hc : c w = true
        · rw [if_pos hc, Nat.testBit_or, Nat.testBit_two_pow, Bool.or_eq_true] at h
          rcases h with h | h
          · exact Or.inl h
          · exact Or.inr ⟨w, Nat.le_refl _, by omega, hc, of_decide_eq_true h⟩
        · rw [if_neg hc] at h
          exact Or.inl h
      · exact Or.inr ⟨v, by omega, by omega, h3, h4⟩
    · rintro (h | ⟨v, h1, h2, h3, h4⟩)
      · left
        split
        · rw [Nat.testBit_or, h]; rfl
        · exact h
      · by_cases hv : v = w
        · subst hv
          left
          rw [if_pos h3, Nat.testBit_or, Nat.testBit_two_pow, decide_eq_true h4, Bool.or_true]
        · exact Or.inr ⟨v, by omega, by omega, h3, h4⟩
/-- the ways, as numbers -/
def WyN (S W : Nat) (fr to : Nat → Nat) (pt mof : Nat → Int32) : Prop := W ≤ 12 ∧ S ≤ 6 ∧ ∀ w, w < W → pt (w * 7 + 0) = nI (fr w) ∧ pt (w * 7 + 1) = nI (to w) ∧ mof (8 * w) = nI (fr w) ∧ mof (8 * w + 1) = nI (to w) ∧ (fr w < S ∨ fr w = 9) ∧ to w < S
theorem wy_ex {S W : Nat} {pt mof : Nat → Int32} (hF : FigOK S W (fun w k => pt (w * 7 + k))) (hW : WR W (fun w k => pt (w * 7 + k)) mof) : ∃ fr to, WyN S W fr to pt mof := by
  obtain ⟨hS6, hW12, hways⟩ := hF
  refine ⟨fun w => (pt (w * 7 + 0)).toNatClampNeg, fun w => (pt (w * 7 + 1)).toNatClampNeg, hW12, hS6, fun w hw => ?_⟩
  obtain ⟨⟨a, e0, ha⟩, ⟨b, e1, hb⟩, -⟩ := hways w hw
  have g0 := hW w hw 0 (by omega)
  have g1 := hW w hw 1 (by omega)
  simp only at e0 e1 g0 g1
  have c0 : (pt (w * 7 + 0)).toNatClampNeg = a := by rw [e0, cl_nI (by omega)]
  have c1 : (pt (w * 7 + 1)).toNatClampNeg = b := by rw [e1, cl_nI (by omega)]
  refine ⟨?_, ?_, ?_, ?_, ?_, ?_⟩
  · show pt (w * 7 + 0) = nI (pt (w * 7 + 0)).toNatClampNeg
    rw [c0, e0]
  · show pt (w * 7 + 1) = nI (pt (w * 7 + 1)).toNatClampNeg
    rw [c1, e1]
  · show mof (8 * w) = nI (pt (w * 7 + 0)).toNatClampNeg
    rw [c0, ← e0]; exact g0
  · show mof (8 * w + 1) = nI (pt (w * 7 + 1)).toNatClampNeg
    rw [c1, ← e1]; exact g1
  · show (pt (w * 7 + 0)).toNatClampNeg < S ∨ (pt (w * 7 + 0)).toNatClampNeg = 9
    rw [c0]; exact ha
  · show (pt (w * 7 + 1)).toNatClampNeg < S
    rw [c1]; exact hb
def c5 (fr : Nat → Nat) (x : Nat) : Nat → Bool := fun w => decide (fr w = 9) || x.testBit (fr w)
def c6 (fr : Nat → Nat) (s : Nat) : Nat → Bool := fun w => decide (fr w = s) || decide (fr w = 9)
theorem st_L {S W x : Nat} {fr to : Nat → Nat} {pt mof : Nat → Int32} (h : WyN S W fr to pt mof) (hx : x < 64) : ∀ (k n w acc : Nat), k = W - w → w ≤ W → k < n → acc < 64 → f_X0_stepsFrom_L4 (nI W) pt (nI x) n (nI w) (nI acc) = some (nI (orN (c5 fr x) to k w acc)) := by
  obtain ⟨hW12, hS6, hw⟩ := h
  intro k
  induction k with
  | zero =>
    intro n w acc hk hwW hn ha
    obtain ⟨n, rfl⟩ : ∃ m, n = m + 1 := ⟨n - 1, by omega⟩
    have : w = W := by omega
    subst this
    unfold f_X0_stepsFrom_L4 orN
    rw [if_pos (Int32.le_refl _)]
  | succ k ih =>
    intro n w acc hk hwW hn ha
    obtain ⟨n, rfl⟩ : ∃ m, n = m + 1 := ⟨n - 1, by omega⟩
    obtain ⟨e0, e1, -, -, hfr, hto⟩ := hw w (by omega)
    have hor := ((m_tab acc ha) (to w) (by omega)).2
    have hlt := m_lt ha (m_pow (show to w < 6 by omega))
    have I := fun acc h => ih n (w + 1) acc (by omega) (by omega) (by omega) h
    unfold f_X0_stepsFrom_L4 orN
    rw [if_neg (show ¬ nI W ≤ nI w by rw [le_nI (by omega) (by omega)]; omega)]
    rw [show f_X0_part pt (nI w) 0 = f_X0_part pt (nI w) (nI 0) from rfl, show f_X0_part pt (nI w) 1 = f_X0_part pt (nI w) (nI 1) from rfl, p_part (by omega) (by omega), p_part (by omega) (by omega), e0, e1]
    simp only [Option.bind_some]
    by_cases h9 : fr w = 9
    · rw [if_pos (show nI (fr w) = 9 by rw [h9]; rfl), hor, ad1, I _ hlt, if_pos (show c5 fr x w = true by unfold c5; rw [decide_eq_true h9]; rfl)]
    · have hb := ((m_tab x hx) (fr w) (by omega)).1
      rw [if_neg (show ¬ nI (fr w) = 9 by show ¬ nI (fr w) = nI 9; rw [eq_nI (by omega) (by omega)]; exact h9)]
      by_cases ht : x.testBit (fr w) = true
      · rw [if_pos (hb.mpr ht), hor, ad1, I _ hlt, if_pos (show c5 fr x w = true by unfold c5; rw [ht, Bool.or_true])]
      · rw [if_neg (fun z => ht (hb.mp z)), ad1, I _ ha, if_neg (show ¬ c5 fr x w = true by unfold c5; rw [decide_eq_false h9, Bool.false_or]; exact ht)]
theorem nx_L {S W s : Nat} {fr to : Nat → Nat} {pt mof : Nat → Int32} (h : WyN S W fr to pt mof) (hs : s < 6) : ∀ (k n w acc : Nat), k = W - w → w ≤ W → k < n → acc < 64 → f_X6_nextOf_L4 (nI W) mof (nI s) n (nI w) (nI acc) = some (nI W, nI (orN (c6 fr s) to k w acc)) := by
  obtain ⟨hW12, hS6, hw⟩ := h
  intro k
  induction k with
  | zero =>
    intro n w acc hk hwW hn ha
    obtain ⟨n, rfl⟩ : ∃ m, n = m + 1 := ⟨n - 1, by omega⟩
    have : w = W := by omega
    subst this
    unfold f_X6_nextOf_L4 orN
    rw [if_pos (Int32.le_refl _)]
  | succ k ih =>
    intro n w acc hk hwW hn ha
    obtain ⟨n, rfl⟩ : ∃ m, n = m + 1 := ⟨n - 1, by omega⟩
    obtain ⟨-, -, e0, e1, hfr, hto⟩ := hw w (by omega)
    have hor := ((m_tab acc ha) (to w) (by omega)).2
    have hlt := m_lt ha (m_pow (show to w < 6 by omega))
    have I := fun acc h => ih n (w + 1) acc (by omega) (by omega) (by omega) h
    unfold f_X6_nextOf_L4 orN
    rw [if_neg (show ¬ nI W ≤ nI w by rw [le_nI (by omega) (by omega)]; omega)]
    simp (disch := omega) only [l8, mu_nI, ad_nI, ad0, ad1, cl_nI, gd_iok, Int32.or_zero, e0, e1, hor]
    rw [I _ hlt, I _ ha]
    by_cases hfs : fr w = s
    · rw [if_pos (show nI (fr w) = nI s by rw [hfs]), if_pos (show c6 fr s w = true by unfold c6; rw [decide_eq_true hfs]; rfl)]
    · rw [if_neg (show ¬ nI (fr w) = nI s by rw [eq_nI (by omega) (by omega)]; exact hfs)]
      by_cases h9 : fr w = 9
      · rw [if_pos (show nI (fr w) = 9 by rw [h9]; rfl), if_pos (show c6 fr s w = true by unfold c6; rw [decide_eq_true h9, Bool.or_true])]
      · rw [if_neg (show ¬ nI (fr w) = 9 by show ¬ nI (fr w) = nI 9; rw [eq_nI (by omega) (by omega)]; exact h9), if_neg (show ¬ c6 fr s w = true by unfold c6; rw [decide_eq_false hfs, decide_eq_false h9]; decide)]
def st5 (W : Nat) (fr to : Nat → Nat) (x : Nat) : Nat := orN (c5 fr x) to W 0 0
def nx6 (W : Nat) (fr to : Nat → Nat) (s : Nat) : Nat := orN (c6 fr s) to W 0 0
def J5 (W : Nat) (fr to : Nat → Nat) (x : Nat) : Nat := x ||| st5 W fr to x
def it5 (W : Nat) (fr to : Nat → Nat) : Nat → Nat → Nat
  | 0, x => x
  | k + 1, x => it5 W fr to k (J5 W fr to x)
def rd6 (W : Nat) (fr to : Nat → Nat) : Nat → Nat → Nat → Nat
  | 0, _, x => x
  | k + 1, s, x => rd6 W fr to k (s + 1) (if x.testBit s then x ||| nx6 W fr to s else x)
def it6 (S W : Nat) (fr to : Nat → Nat) : Nat → Nat → Nat
  | 0, x => x
  | k + 1, x => it6 S W fr to k (rd6 W fr to S 0 x)
section RC
variable {S W : Nat} {fr to : Nat → Nat} {pt mof : Nat → Int32}
theorem st5_lt (h : WyN S W fr to pt mof) (x : Nat) : st5 W fr to x < 64 := orN_lt (W := W) (fun w hw => by have := (h.2.2 w hw).2.2.2.2.2; have := h.2.1; omega) W 0 0 (by omega) (by omega)
theorem nx6_lt (h : WyN S W fr to pt mof) (s : Nat) : nx6 W fr to s < 64 := orN_lt (W := W) (fun w hw => by have := (h.2.2 w hw).2.2.2.2.2; have := h.2.1; omega) W 0 0 (by omega) (by omega)
theorem J5_lt (h : WyN S W fr to pt mof) {x : Nat} (hx : x < 64) : J5 W fr to x < 64 := m_lt hx (st5_lt h x)
theorem rd6_lt (h : WyN S W fr to pt mof) : ∀ (k s x : Nat), x < 64 → rd6 W fr to k s x < 64 := by
  intro k
  induction k with
  | zero => intro s x hx; exact hx
  | succ k ih =>
    intro s x hx
    unfold rd6
    apply ih
    split
    · exact m_lt hx (nx6_lt h s)
    · exact hx
theorem st5_bit (x j : Nat) : (st5 W fr to x).testBit j = true ↔ ∃ v, v < W ∧ (fr v = 9 ∨ x.testBit (fr v) = true) ∧ to v = j := by
  unfold st5
  rw [orN_bit, Nat.zero_testBit]
  constructor
  · rintro (h | ⟨v, -, h2, h3, h4⟩)
    · cases h
    · unfold c5 at h3
      rw [Bool.or_eq_true] at h3
      exact ⟨v, by omega, h3.imp of_decide_eq_true id, h4⟩
  · rintro ⟨v, h1, h2, h3⟩
    refine Or.inr ⟨v, by omega, by omega, ?_, h3⟩
    unfold c5
    rw [Bool.or_eq_true]
    exact h2.imp decide_eq_true id
theorem nx6_bit (s j : Nat) : (nx6 W fr to s).testBit j = true ↔ ∃ v, v < W ∧ (fr v = s ∨ fr v = 9) ∧ to v = j := by
  unfold nx6
  rw [orN_bit, Nat.zero_testBit]
  constructor
  · rintro (h | ⟨v, -, h2, h3, h4⟩)
    · cases h
    · unfold c6 at h3
      rw [Bool.or_eq_true] at h3
      exact ⟨v, by omega, h3.imp of_decide_eq_true of_decide_eq_true, h4⟩
  · rintro ⟨v, h1, h2, h3⟩
    refine Or.inr ⟨v, by omega, by omega, ?_, h3⟩
    unfold c6
    rw [Bool.or_eq_true]
    exact h2.imp decide_eq_true decide_eq_true
def sbs (x y : Nat) : Prop := ∀ j, x.testBit j = true → y.testBit j = true
theorem sbs_eq {x y : Nat} (h1 : sbs x y) (h2 : sbs y x) : x = y := by
  apply Nat.eq_of_testBit_eq
  intro j
  have a := h1 j
  have b := h2 j
  cases hx : x.testBit j <;> cases hy : y.testBit j
  · rfl
  · rw [b hy] at hx; cases hx
  · rw [a hx] at hy; cases hy
  · rfl
theorem or_bit {x y j : Nat} : (x ||| y).testBit j = true ↔ (x.testBit j = true ∨ y.testBit j = true) := by rw [Nat.testBit_or, Bool.or_eq_true]
theorem J5_mono {x y : Nat} (h : sbs x y) : sbs (J5 W fr to x) (J5 W fr to y) := by
  intro j hj
  unfold J5 at hj ⊢
  rw [or_bit] at hj ⊢
  rcases hj with hj | hj
  · exact Or.inl (h j hj)
  · rw [st5_bit] at hj ⊢
    obtain ⟨v, h1, h2, h3⟩ := hj
    exact Or.inr ⟨v, h1, h2.imp id (h _), h3⟩
theorem rd6_inf : ∀ (k s x : Nat), sbs x (rd6 W fr to k s x) := by
  intro k
  induction k with
  | zero => intro s x j hj; exact hj
  | succ k ih =>
    intro s x j hj
    unfold rd6
    apply ih
    split
    · rw [or_bit]; exact Or.inl hj
    · exact hj
theorem rd6_has : ∀ (k s x t : Nat), s ≤ t → t < s + k → x.testBit t = true → sbs (nx6 W fr to t) (rd6 W fr to k s x) := by
  intro k
  induction k with
  | zero => intro s x t h1 h2 _; omega
  | succ k ih =>
    intro s x t h1 h2 hx j hj
    unfold rd6
    by_cases he : t = s
    · subst he
      rw [if_pos hx]
      apply rd6_inf
      rw [or_bit]
      exact Or.inr hj
    · refine ih (s + 1) _ t (by omega) (by omega) ?_ j hj
      split
      · rw [or_bit]; exact Or.inl hx
      · exact hx
theorem rd6_in {c : Nat} (hc : sbs (st5 W fr to c) c) : ∀ (k s x : Nat), sbs x c → sbs (rd6 W fr to k s x) c := by
  intro k
  induction k with
  | zero => intro s x h; exact h
  | succ k ih =>
    intro s x h
    unfold rd6
    apply ih
    split
    · rename_i hs
      intro j hj
      rw [or_bit] at hj
      rcases hj with hj | hj
      · exact h j hj
      · rw [nx6_bit] at hj
        obtain ⟨v, h1, h2, h3⟩ := hj
        apply hc
        rw [st5_bit]
        refine ⟨v, h1, ?_, h3⟩
        rcases h2 with h2 | h2
        · right; rw [h2]; exact h s hs
        · exact Or.inl h2
    · exact h
/-- every way of the class's round is one of the reference's, while a state is there -/
theorem J5_rd6 (h : WyN S W fr to pt mof) {x s0 : Nat} (h0 : s0 < S) (hs0 : x.testBit s0 = true) : sbs (J5 W fr to x) (rd6 W fr to S 0 x) := by
  intro j hj
  unfold J5 at hj
  rw [or_bit] at hj
  rcases hj with hj | hj
  · exact rd6_inf _ _ _ j hj
  · rw [st5_bit] at hj
    obtain ⟨v, h1, h2, h3⟩ := hj
    have hv := (h.2.2 v h1).2.2.2.2.1
    rcases h2 with h2 | h2
    · refine rd6_has S 0 x s0 (by omega) (by omega) hs0 j ?_
      rw [nx6_bit]
      exact ⟨v, h1, Or.inr h2, h3⟩
    · by_cases h9 : fr v = 9
      · refine rd6_has S 0 x s0 (by omega) (by omega) hs0 j ?_
        rw [nx6_bit]
        exact ⟨v, h1, Or.inr h9, h3⟩
      · refine rd6_has S 0 x (fr v) (by omega) (by omega) h2 j ?_
        rw [nx6_bit]
        exact ⟨v, h1, Or.inl rfl, h3⟩
def pc6 (x : Nat) : Nat := (x % 2) + (x / 2 % 2) + (x / 4 % 2) + (x / 8 % 2) + (x / 16 % 2) + (x / 32 % 2)
theorem pc_le (x : Nat) : pc6 x ≤ 6 := by unfold pc6; omega
theorem pc_tab : ∀ x, x < 64 → ∀ y, y < 64 → x ||| y ≠ x → pc6 x + 1 ≤ pc6 (x ||| y) := by decide +kernel
theorem pc_pos : ∀ s, s < 6 → 1 ≤ pc6 (2 ^ s) := by decide +kernel
/-- so many rounds as states are enough -/
theorem it5_fix (h : WyN S W fr to pt mof) : ∀ (k x : Nat), x < 64 → 6 ≤ pc6 x + k → J5 W fr to (it5 W fr to k x) = it5 W fr to k x := by
  intro k
  induction k with
  | zero =>
    intro x hx hp
    show J5 W fr to x = x
    unfold J5
    by_cases he : x ||| st5 W fr to x = x
    · exact he
    · have := pc_tab x hx _ (st5_lt h x) he
      have := pc_le (x ||| st5 W fr to x)
      omega
  | succ k ih =>
    intro x hx hp
    show J5 W fr to (it5 W fr to k (J5 W fr to x)) = it5 W fr to k (J5 W fr to x)
    by_cases he : J5 W fr to x = x
    · rw [he]
      have : ∀ k, it5 W fr to k x = x := by
        intro k
        induction k with
        | zero => rfl
        | succ k ih2 => show it5 W fr to k (J5 W fr to x) = x; rw [he]; exact ih2
      rw [this k]
      exact he
    · apply ih _ (J5_lt h hx)
      have := pc_tab x hx _ (st5_lt h x) he
      show 6 ≤ pc6 (x ||| st5 W fr to x) + k
      omega
theorem J5_inf (x : Nat) : sbs x (J5 W fr to x) := fun j hj => by unfold J5; rw [or_bit]; exact Or.inl hj
theorem it5_inf : ∀ (k x : Nat), sbs x (it5 W fr to k x) := by
  intro k
  induction k with
  | zero => intro x j hj; exact hj
  | succ k ih => intro x j hj; exact ih _ j (J5_inf x j hj)
theorem it_low (h : WyN S W fr to pt mof) {s0 : Nat} (h0 : s0 < S) : ∀ (k x y : Nat), y.testBit s0 = true → sbs x y → sbs (it5 W fr to k x) (it6 S W fr to k y) := by
  intro k
  induction k with
  | zero => intro x y _ h2; exact h2
  | succ k ih =>
    intro x y h1 h2
    show sbs (it5 W fr to k (J5 W fr to x)) (it6 S W fr to k (rd6 W fr to S 0 y))
    exact ih _ _ (rd6_inf _ _ _ _ h1) (fun j hj => J5_rd6 h h0 h1 j (J5_mono h2 j hj))
theorem it_high {c : Nat} (hc : sbs (st5 W fr to c) c) : ∀ (k y : Nat), sbs y c → sbs (it6 S W fr to k y) c := by
  intro k
  induction k with
  | zero => intro y h; exact h
  | succ k ih => intro y h; exact ih _ (rd6_in hc _ _ _ h)
theorem it_same (h : WyN S W fr to pt mof) {s : Nat} (hs : s < S) : it5 W fr to 6 (2 ^ s) = it6 S W fr to 6 (2 ^ s) := by
  have hS := h.2.1
  have hb : (2 ^ s).testBit s = true := by rw [Nat.testBit_two_pow]; exact decide_eq_true rfl
  apply sbs_eq
  · exact it_low h hs 6 _ _ hb (fun j hj => hj)
  · have hfix := it5_fix h 6 (2 ^ s) (m_pow (by omega)) (by omega)
    refine it_high (fun j hj => ?_) 6 _ (it5_inf 6 _)
    rw [← hfix]
    unfold J5
    rw [or_bit]
    exact Or.inr hj
theorem q_reach_L (h : WyN S W fr to pt mof) : ∀ (k n x y : Nat), k = 6 - x → x ≤ 6 → k < n → y < 64 → f_X5_reach_L17 (nI W) pt n (nI x) (nI y) = some (nI 6, nI (it5 W fr to k y)) := by
  have hW := h.1
  intro k
  induction k with
  | zero =>
    intro n x y hk hx hn hy
    obtain ⟨n, rfl⟩ : ∃ m, n = m + 1 := ⟨n - 1, by omega⟩
    have : x = 6 := by omega
    subst this
    unfold f_X5_reach_L17
    rw [if_pos (show (6 : Int32) ≤ nI 6 by decide)]
    rfl
  | succ k ih =>
    intro n x y hk hx hn hy
    obtain ⟨n, rfl⟩ : ∃ m, n = m + 1 := ⟨n - 1, by omega⟩
    unfold f_X5_reach_L17 f_X0_stepsFrom
    rw [if_neg (show ¬ (6 : Int32) ≤ nI x by show ¬ nI 6 ≤ nI x; rw [le_nI (by omega) (by omega)]; omega)]
    rw [show f_X0_stepsFrom_L4 (nI W) pt (nI y) 20 0 0 = f_X0_stepsFrom_L4 (nI W) pt (nI y) 20 (nI 0) (nI 0) from rfl, st_L h hy W 20 0 0 (by omega) (by omega) (by omega) (by omega)]
    simp only [Option.bind_some, ad1]
    rw [show orN (c5 fr y) to W 0 0 = st5 W fr to y from rfl, m_or y hy _ (st5_lt h y)]
    exact ih n (x + 1) _ (by omega) (by omega) (by omega) (J5_lt h hy)
theorem q6_reach_L26 (h : WyN S W fr to pt mof) (x3 : Int32) : ∀ (k n s y : Nat), k = S - s → s ≤ S → k < n → y < 64 → f_X6_reach_L26 (nI S) (nI W) mof n (nI s) (nI y) x3 = some (nI S, x3, nI (rd6 W fr to k s y)) := by
  have hW := h.1
  have hS := h.2.1
  intro k
  induction k with
  | zero =>
    intro n s y hk hs hn hy
    obtain ⟨n, rfl⟩ : ∃ m, n = m + 1 := ⟨n - 1, by omega⟩
    have : s = S := by omega
    subst this
    unfold f_X6_reach_L26
    rw [if_pos (Int32.le_refl _)]
    rfl
  | succ k ih =>
    intro n s y hk hs hn hy
    obtain ⟨n, rfl⟩ : ∃ m, n = m + 1 := ⟨n - 1, by omega⟩
    have hb := ((m_tab y hy) s (by omega)).1
    unfold f_X6_reach_L26 f_X6_nextOf rd6
    rw [if_neg (show ¬ nI S ≤ nI s by rw [le_nI (by omega) (by omega)]; omega), p6_has]
    rw [show f_X6_nextOf_L4 (nI W) mof (nI s) 1000 0 0 = f_X6_nextOf_L4 (nI W) mof (nI s) 1000 (nI 0) (nI 0) from rfl, nx_L h (by omega) W 1000 0 0 (by omega) (by omega) (by omega) (by omega)]
    simp only [Option.bind_some, ad1, Int32.or_zero]
    by_cases ht : y.testBit s = true
    · rw [decide_eq_true (hb.mpr ht), if_neg (show ¬ bI true = 0 by decide), show orN (c6 fr s) to W 0 0 = nx6 W fr to s from rfl, m_or y hy _ (nx6_lt h s), if_pos ht]
      exact ih n (s + 1) _ (by omega) (by omega) (by omega) (m_lt hy (nx6_lt h s))
    · rw [decide_eq_false (fun z => ht (hb.mp z)), if_pos (show bI false = 0 from rfl), if_neg ht]
      exact ih n (s + 1) _ (by omega) (by omega) (by omega) hy
theorem q6_reach_L (h : WyN S W fr to pt mof) : ∀ (k n x y : Nat), k = 6 - x → x ≤ 6 → k < n → y < 64 → f_X6_reach_L17 (nI S) (nI W) mof n (nI x) (nI y) = some (nI 6, nI (it6 S W fr to k y)) := by
  have hW := h.1
  have hS := h.2.1
  intro k
  induction k with
  | zero =>
    intro n x y hk hx hn hy
    obtain ⟨n, rfl⟩ : ∃ m, n = m + 1 := ⟨n - 1, by omega⟩
    have : x = 6 := by omega
    subst this
    unfold f_X6_reach_L17
    rw [if_pos (show (6 : Int32) ≤ nI 6 by decide)]
    rfl
  | succ k ih =>
    intro n x y hk hx hn hy
    obtain ⟨n, rfl⟩ : ∃ m, n = m + 1 := ⟨n - 1, by omega⟩
    unfold f_X6_reach_L17
    rw [if_neg (show ¬ (6 : Int32) ≤ nI x by show ¬ nI 6 ≤ nI x; rw [le_nI (by omega) (by omega)]; omega)]
    rw [show f_X6_reach_L26 (nI S) (nI W) mof 1000 0 (nI y) (nI x) = f_X6_reach_L26 (nI S) (nI W) mof 1000 (nI 0) (nI y) (nI x) from rfl, q6_reach_L26 h (nI x) S 1000 0 y (by omega) (by omega) (by omega) hy]
    simp only [Option.bind_some, ad1]
    exact ih n (x + 1) _ (by omega) (by omega) (by omega) (rd6_lt h _ _ _ hy)
end RC
theorem bit_2 : ∀ s, s < 6 → ((1 : Int32) <<< (nI s &&& 31)) = nI (2 ^ s) := by decide +kernel
theorem do_reach {l : Launch} {D : va_G} {B : Nat} {adK adV : Nat → Nat} {cC cF cI cZ cM cS : ClassId} {xa : Nat} {ad : Nat → Nat} {ya : Nat} {am : Nat → Nat} {σ : XS} {τ : RS} (hR : RR σ τ) (i : Int32) : B_reach l D B adK adV cC cF cI cZ cM cS xa ad ya am i σ τ := by
  have hR0 := hR
  obtain ⟨h1, h2, h3, S, W, ⟨f1, f2, f3, f4, -, -, -, f8, f9⟩, h5⟩ := hR
  have key : ∃ r, f_X5_reach σ.2.1.1 σ.2.1.2.1 σ.2.1.2.2.2.2.2 i = some r ∧ f_X6_reach τ.1 τ.2.1 τ.2.2.2.2.2.1 i = some r := by
    rw [f1, f2, f3, f4]
    have hS := f8.1
    unfold f_X5_reach f_X6_reach
    rcases ix_cases i S (by omega) with hi | hi | ⟨a, ha, rfl⟩
    · rw [(isSt_lo hi).1, (isSt_lo hi).2]; exact ⟨_, rfl, rfl⟩
    · rw [(isSt_hi (by omega) hi).1, (isSt_hi (by omega) hi).2]; exact ⟨_, rfl, rfl⟩
    · rw [(isSt_ok (by omega) ha).1, (isSt_ok (by omega) ha).2]
      simp only [Option.bind_some, if_neg o10]
      obtain ⟨fr, to, hw⟩ := wy_ex f8 f9
      rw [bit_2 a (by omega), show ∀ y, f_X5_reach_L17 (nI W) σ.2.1.2.2.2.2.2 1000 0 y = f_X5_reach_L17 (nI W) σ.2.1.2.2.2.2.2 1000 (nI 0) y from fun _ => rfl, show ∀ y, f_X6_reach_L17 (nI S) (nI W) τ.2.2.2.2.2.1 1000 0 y = f_X6_reach_L17 (nI S) (nI W) τ.2.2.2.2.2.1 1000 (nI 0) y from fun _ => rfl, q_reach_L hw 6 1000 0 _ (by omega) (by omega) (by omega) (m_pow (by omega)), q6_reach_L hw 6 1000 0 _ (by omega) (by omega) (by omega) (m_pow (by omega)), it_same hw ha]
      exact ⟨_, rfl, rfl⟩
  obtain ⟨r, e1, e2⟩ := key
  exact ⟨.int r, _, _, k_reach l D B adK adV cC cF cI cZ cM cS xa ad σ i r e1, k6_reach l D B adK adV cC cF cI cZ cM cS ya am τ i r e2, hR0⟩
