/-! ===== the reference's layers: rows of numbers ===== -/
theorem l2 : (2 : Int32) = nI 2 := rfl
theorem l3 : (3 : Int32) = nI 3 := rfl
theorem l4 : (4 : Int32) = nI 4 := rfl
theorem l5 : (5 : Int32) = nI 5 := rfl
theorem l6 : (6 : Int32) = nI 6 := rfl
theorem l8 : (8 : Int32) = nI 8 := rfl
theorem l9 : (9 : Int32) = nI 9 := rfl
theorem l10 : (10 : Int32) = nI 10 := rfl
theorem l12 : (12 : Int32) = nI 12 := rfl
theorem l13 : (13 : Int32) = nI 13 := rfl
theorem l14 : (14 : Int32) = nI 14 := rfl
theorem l24 : (24 : Int32) = nI 24 := rfl
theorem ad0 (a : Nat) : nI a + 0 = nI a := by rw [show (0 : Int32) = nI 0 from rfl, ad_nI]; rfl
theorem ad1 (a : Nat) : nI a + 1 = nI (a + 1) := nI_1 a
/-- a layer, in its row -/
def LR (x : AL) (mw : Nat → Int32) (mf : Nat → UInt32) (r l : Nat) : Prop :=
  mw (14 * r + 5 * l) = nI x.1 ∧ mw (14 * r + 5 * l + 1) = nI x.2.1 ∧ mw (14 * r + 5 * l + 2) = bfI x.2.2.1 ∧ mw (14 * r + 5 * l + 3) = bdI x.2.2.1 ∧ mw (14 * r + 5 * l + 4) = bwI x.2.2.1 ∧ (∀ s, s < 6 → mf (24 * r + 6 * l + s) = x.2.2.2.1 s) ∧ (x.2.2.1 ≠ none → ∀ s, s < 6 → mf (24 * r + 12 + 6 * l + s) = x.2.2.2.2 s)
def NR (nm : Nat → Int32) (tr : Int32) (mw : Nat → Int32) (r : Nat) : Prop := (∀ k, k < 3 → mw (14 * r + 10 + k) = nm k) ∧ mw (14 * r + 13) = tr
def FrW (mw mw' : Nat → Int32) (r l : Nat) : Prop := ∀ j, ¬ (14 * r + 5 * l ≤ j ∧ j < 14 * r + 5 * l + 5) → j ≠ 14 * r + 13 → mw' j = mw j
def FrF (mf mf' : Nat → UInt32) (r l : Nat) : Prop := ∀ j, ¬ (24 * r + 6 * l ≤ j ∧ j < 24 * r + 6 * l + 6) → ¬ (24 * r + 12 + 6 * l ≤ j ∧ j < 24 * r + 12 + 6 * l + 6) → mf' j = mf j
def WR (W : Nat) (pw : Nat → Nat → Int32) (mof : Nat → Int32) : Prop := ∀ w, w < W → ∀ k, k < 7 → mof (8 * w + k) = pw w k
theorem p6_has {x : Int32} {p : Nat} : f_X6_has x (nI p) = some (bI (decide (((x >>> (nI p &&& 31)) &&& 1) = 1))) := by
  unfold f_X6_has bI
  by_cases h : ((x >>> (nI p &&& 31)) &&& 1) = 1 <;> simp [h]
theorem p6_holds {W : Nat} {pw : Nat → Nat → Int32} {mof mw nm : Nat → Int32} {tr la : Int32} {r l w p : Nat} (hW : W ≤ 12) (hR : WR W pw mof) (hw : w < W) (hr : r < 12) (hl : l < 2) (h5 : pw w 5 = nI p) (hp : p < 3) (hN : NR nm tr mw r) (hla : mw (14 * r + 5 * l + 1) = la) :
    f_X6_holds mof mw (nI r) (nI l) (nI w) = some (bI (hol (pw w) la nm tr)) := by
  have e4 := hR w hw 4 (by omega)
  have e5 := hR w hw 5 (by omega)
  have e6 := hR w hw 6 (by omega)
  unfold f_X6_holds hol
  simp (disch := omega) only [l2, l3, l4, l5, l6, l8, l10, l12, l13, l14, l24, ad0, ad1, mu_nI, ad_nI, cl_nI, gd_iok]
  rw [h5] at e5
  rw [e4, e5, e6]
  simp (disch := omega) only [l2, l3, l4, l5, l6, l8, l10, l12, l13, l14, l24, ad0, ad1, mu_nI, ad_nI, cl_nI, gd_iok]
  rw [hla, hN.2, hN.1 p hp, h5, cl_nI (show p < 2147483648 by omega), p6_has]
  by_cases h0 : pw w 4 = 0
  · rw [if_pos h0, if_pos h0]
    by_cases h1 : la < pw w 6 <;> simp [h1, bI]
  · rw [if_neg h0, if_neg h0]
    by_cases h1 : pw w 4 = 1
    · rw [if_pos h1, if_pos h1]
      by_cases h2 : nm p ≤ pw w 6 <;> simp [h2, bI]
    · rw [if_neg h1, if_neg h1]
      by_cases h2 : pw w 4 = nI 2
      · simp only [h2, if_true]
        by_cases h3 : pw w 6 ≤ nm p <;> simp [h3, bI]
      · simp only [h2, if_false]
        simp only [Option.bind_some]
        rw [gd_t (bI_zok _)]
def mI (o : Option Nat) : Int32 := match o with | none => -1 | some v => nI v
theorem fwB_s (o : Nat → Bool) (n w : Nat) : fwB o (n + 1) w = if o w then some w else fwB o n (w + 1) := rfl
theorem mI_s (o : Nat → Bool) (n w : Nat) : mI (fwB o (n + 1) w) = if o w then nI w else mI (fwB o n (w + 1)) := by
  rw [fwB_s]
  cases o w <;> rfl
theorem p6_taken_L {S W : Nat} {pw : Nat → Nat → Int32} {mof mw nm : Nat → Int32} {tr : Int32} {r l a t : Nat} (hF : FigOK S W pw) (hR : WR W pw mof) (hr : r < 12) (hl : l < 2) (hN : NR nm tr mw r) (h0 : mw (14 * r + 5 * l) = nI a) (h1 : mw (14 * r + 5 * l + 1) = nI t) :
    ∀ (k n w : Nat), k = W - w → w ≤ W → k < n → f_X6_taken_L19 (nI W) mof mw (nI r) (nI l) n (nI w) = some (mI (fwB (fun v => opn (pw v) (nI a) (nI t) nm tr) k w)) := by
  obtain ⟨hS6, hW12, hways⟩ := hF
  intro k
  induction k with
  | zero =>
    intro n w hk hw hn
    obtain ⟨n, rfl⟩ : ∃ m, n = m + 1 := ⟨n - 1, by omega⟩
    have : w = W := by omega
    subst this
    unfold f_X6_taken_L19
    rw [if_pos (Int32.le_refl _)]
    rfl
  | succ k ih =>
    intro n w hk hw hn
    obtain ⟨n, rfl⟩ : ∃ m, n = m + 1 := ⟨n - 1, by omega⟩
    obtain ⟨-, -, -, -, -, ⟨p, hp, hp3⟩⟩ := hways w (by omega)
    have e0 := hR w (by omega) 0 (by omega)
    have e1 := hR w (by omega) 1 (by omega)
    have hh := p6_holds (la := nI t) hW12 hR (show w < W by omega) hr hl hp hp3 hN h1
    have hi := ih n (w + 1) (by omega) (by omega) (by omega)
    unfold f_X6_taken_L19
    rw [if_neg (show ¬ nI W ≤ nI w by rw [le_nI (by omega) (by omega)]; omega)]
    simp (disch := omega) only [l2, l3, l4, l5, l6, l8, l10, l12, l13, l14, l24, ad0, ad1, mu_nI, ad_nI, cl_nI, gd_iok]
    rw [hi, hh, h0, e1]
    rw [show 8 * w = 8 * w + 0 from rfl, e0, mI_s]
    generalize mI (fwB (fun v => opn (pw v) (nI a) (nI t) nm tr) k (w + 1)) = rest
    simp only [Option.bind_some]
    unfold opn
    generalize hol (pw w) (nI t) nm tr = hb
    by_cases c0 : pw w 0 = nI a
    · simp only [c0, if_true, decide_true, Bool.true_or, Bool.true_and]
      by_cases c1 : pw w 1 = nI a
      · simp [c1]
      · simp only [c1, if_false, not_false_eq_true, decide_true, Bool.true_and]
        cases hb <;> simp [bI]
    · by_cases c9 : pw w 0 = 9
      · rw [if_neg c0]
        simp only [c0, decide_false, Bool.false_or]
        rw [show (9 : Int32) = nI 9 from rfl] at c9
        simp only [c9, if_true, show (9 : Int32) = nI 9 from rfl, decide_true, Bool.true_and]
        by_cases c1 : pw w 1 = nI a
        · simp [c1]
        · simp only [c1, if_false, not_false_eq_true, decide_true, Bool.true_and]
          cases hb <;> simp [bI]
      · simp [c0, c9]
theorem p6_taken {S W : Nat} {pw : Nat → Nat → Int32} {mof mw nm : Nat → Int32} {tr : Int32} {r l a t : Nat} (hF : FigOK S W pw) (hR : WR W pw mof) (hr : r < 12) (hl : l < 2) (hN : NR nm tr mw r) (h0 : mw (14 * r + 5 * l) = nI a) (h1 : mw (14 * r + 5 * l + 1) = nI t) :
    f_X6_taken (nI W) mof mw (nI r) (nI l) = some (mI (fwB (fun v => opn (pw v) (nI a) (nI t) nm tr) W 0)) := by
  have hW := hF.2.1
  unfold f_X6_taken
  simp (disch := omega) only [l2, l3, l4, l5, l6, l8, l10, l12, l13, l14, l24, ad0, ad1, mu_nI, ad_nI, cl_nI, gd_iok]
  rw [show (0 : Int32) = nI 0 from rfl, p6_taken_L hF hR hr hl hN h0 h1 W 1000 0 (by omega) (by omega) (by omega)]
theorem p6_steadies_L {mw : Nat → Int32} {r l a : Nat} (hr : r < 12) (hl : l < 2) (ha : a < 6) (h0 : mw (14 * r + 5 * l) = nI a) :
    ∀ (k n x : Nat) (mf : Nat → UInt32), k = 6 - x → x ≤ 6 → k < n → f_X6_steadies_L39 (nI r) (nI l) mw n (nI x) mf = some (nI 6, fun j => if 24 * r + 6 * l + x ≤ j ∧ j < 24 * r + 6 * l + 6 then (if j = 24 * r + 6 * l + a then FP.fconst1 else FP.fconst0) else mf j) := by
  intro k
  induction k with
  | zero =>
    intro n x mf hk hx hn
    obtain ⟨n, rfl⟩ : ∃ m, n = m + 1 := ⟨n - 1, by omega⟩
    have : x = 6 := by omega
    subst this
    unfold f_X6_steadies_L39
    rw [if_pos (show (6 : Int32) ≤ nI 6 from Int32.le_refl _)]
    congr 2
    funext j
    rw [if_neg (by omega)]
  | succ k ih =>
    intro n x mf hk hx hn
    obtain ⟨n, rfl⟩ : ∃ m, n = m + 1 := ⟨n - 1, by omega⟩
    unfold f_X6_steadies_L39
    rw [if_neg (show ¬ (6 : Int32) ≤ nI x by show ¬ nI 6 ≤ nI x; rw [le_nI (by omega) (by omega)]; omega)]
    simp (disch := omega) only [l2, l3, l4, l5, l6, l8, l10, l12, l13, l14, l24, ad0, ad1, mu_nI, ad_nI, cl_nI, gd_iok]
    rw [upd_n (show 14 * r + 5 * l ≠ 14 * r + 5 * l + 4 by omega), upd_n (show 14 * r + 5 * l ≠ 14 * r + 5 * l + 3 by omega), upd_n (show 14 * r + 5 * l ≠ 14 * r + 5 * l + 2 by omega), h0]
    by_cases hxa : x = a
    · rw [if_pos (by rw [hxa]), ih n (x + 1) _ (by omega) (by omega) (by omega)]
      congr 2
      funext j
      by_cases h1 : j = 24 * r + 6 * l + x
      · subst h1; rw [if_neg (by omega), vfu_s, if_pos (by omega), if_pos (by omega)]
      · by_cases h2 : 24 * r + 6 * l + x ≤ j ∧ j < 24 * r + 6 * l + 6
        · rw [if_pos (by omega), if_pos h2]
        · rw [if_neg (by omega), if_neg h2, vfu_n h1]
    · rw [if_neg (by rw [eq_nI (by omega) (by omega)]; exact hxa), ih n (x + 1) _ (by omega) (by omega) (by omega)]
      congr 2
      funext j
      by_cases h1 : j = 24 * r + 6 * l + x
      · subst h1; rw [if_neg (by omega), vfu_s, if_pos (by omega), if_neg (by omega)]
      · by_cases h2 : 24 * r + 6 * l + x ≤ j ∧ j < 24 * r + 6 * l + 6
        · rw [if_pos (by omega), if_pos h2]
        · rw [if_neg (by omega), if_neg h2, vfu_n h1]
theorem p6_steadies {mw : Nat → Int32} {mf : Nat → UInt32} {r l a : Nat} (hr : r < 12) (hl : l < 2) (ha : a < 6) (h0 : mw (14 * r + 5 * l) = nI a) :
    f_X6_steadies mw mf (nI r) (nI l) = some (upd (upd (upd mw (14 * r + 5 * l + 2) 0) (14 * r + 5 * l + 3) 0) (14 * r + 5 * l + 4) (-1), fun j => if 24 * r + 6 * l ≤ j ∧ j < 24 * r + 6 * l + 6 then (if j = 24 * r + 6 * l + a then FP.fconst1 else FP.fconst0) else mf j) := by
  unfold f_X6_steadies
  simp (disch := omega) only [l2, l3, l4, l5, l6, l8, l10, l12, l13, l14, l24, ad0, ad1, mu_nI, ad_nI, cl_nI, gd_iok]
  rw [show f_X6_steadies_L39 (nI r) (nI l) mw 1000 0 mf = f_X6_steadies_L39 (nI r) (nI l) mw 1000 (nI 0) mf from rfl, p6_steadies_L hr hl ha h0 6 1000 0 mf (by omega) (by omega) (by omega)]
  simp only [Option.bind_some, Nat.add_zero]
theorem p6_takes_L {r l : Nat} (hr : r < 12) (hl : l < 2) (mw : Nat → Int32) :
    ∀ (k n x : Nat) (mf : Nat → UInt32), k = 6 - x → x ≤ 6 → k < n → f_X6_takes_L128 (nI r) (nI l) n (nI x) mf mw = some (nI 6, mw, fun j => if 24 * r + 12 + 6 * l + x ≤ j ∧ j < 24 * r + 12 + 6 * l + 6 then mf (j - 12) else mf j) := by
  intro k
  induction k with
  | zero =>
    intro n x mf hk hx hn
    obtain ⟨n, rfl⟩ : ∃ m, n = m + 1 := ⟨n - 1, by omega⟩
    have : x = 6 := by omega
    subst this
    unfold f_X6_takes_L128
    rw [if_pos (show (6 : Int32) ≤ nI 6 from Int32.le_refl _)]
    congr 3
    funext j
    rw [if_neg (by omega)]
  | succ k ih =>
    intro n x mf hk hx hn
    obtain ⟨n, rfl⟩ : ∃ m, n = m + 1 := ⟨n - 1, by omega⟩
    unfold f_X6_takes_L128
    rw [if_neg (show ¬ (6 : Int32) ≤ nI x by show ¬ nI 6 ≤ nI x; rw [le_nI (by omega) (by omega)]; omega)]
    simp (disch := omega) only [l2, l3, l4, l5, l6, l8, l10, l12, l13, l14, l24, ad0, ad1, mu_nI, ad_nI, cl_nI, gd_iok]
    rw [ih n (x + 1) _ (by omega) (by omega) (by omega)]
    congr 3
    funext j
    by_cases h1 : j = 24 * r + 12 + 6 * l + x
    · subst h1
      rw [if_neg (by omega), vfu_s, if_pos (by omega)]
      congr 1
      omega
    · by_cases h2 : 24 * r + 12 + 6 * l + x ≤ j ∧ j < 24 * r + 12 + 6 * l + 6
      · rw [if_pos (by omega), if_pos h2, vfu_n (by omega)]
      · rw [if_neg (by omega), if_neg h2, vfu_n h1]
