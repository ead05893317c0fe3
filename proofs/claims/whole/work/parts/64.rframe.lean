theorem p6_takes {S W : Nat} {pw : Nat → Nat → Int32} {mof mw nm : Nat → Int32} {mf : Nat → UInt32} {tr : Int32} {r l w b n : Nat} {x : AL} (hF : FigOK S W pw) (hR : WR W pw mof) (hr : r < 12) (hl : l < 2) (hw : w < W) (hN : NR nm tr mw r) (hx : LR x mw mf r l)
    (hb : pw w 1 = nI b) (hbS : b < S) (hn : pw w 2 = nI n) (hn2 : n < 100) :
    ∃ mw' mf', f_X6_takes mof mw mf (nI r) (nI l) (nI w) = some (mw', mf') ∧ LR (atake x w b n) mw' mf' r l ∧ NR nm (atr pw tr w) mw' r ∧ FrW mw mw' r l ∧ FrF mf mf' r l := by
  obtain ⟨hS6, hW12, hways⟩ := hF
  obtain ⟨-, -, -, -, -, ⟨p, hp, hp3⟩⟩ := hways w hw
  have e1 := hR w hw 1 (by omega)
  have e2 := hR w hw 2 (by omega)
  have e4 := hR w hw 4 (by omega)
  have e5 := hR w hw 5 (by omega)
  rw [hb] at e1
  rw [hn] at e2
  rw [hp] at e5
  obtain ⟨x1, x2, x3, x4, x5, x6, x7⟩ := hx
  -- the row behind the way is taken, whatever became of the trigger
  have key : ∀ M : Nat → Int32, (∀ k, k < 3 → M (14 * r + 10 + k) = nm k) → M (14 * r + 13) = atr pw tr w → (∀ j, j ≠ 14 * r + 13 → M j = mw j) →
      ∃ mw' mf', (gd (iok (nI (8 * w + 2)) 96) (if nI n = 0 then (f_X6_steadies (upd (upd (upd (upd (upd M (14 * r + 5 * l) (nI b)) (14 * r + 5 * l + 1) 0) (14 * r + 5 * l + 2) (nI n)) (14 * r + 5 * l + 3) 0) (14 * r + 5 * l + 4) (nI w)) (fun j => if 24 * r + 12 + 6 * l + 0 ≤ j ∧ j < 24 * r + 12 + 6 * l + 6 then mf (j - 12) else mf j) (nI r) (nI l)).bind (fun q => some (q.1, q.2)) else some (upd (upd (upd (upd (upd M (14 * r + 5 * l) (nI b)) (14 * r + 5 * l + 1) 0) (14 * r + 5 * l + 2) (nI n)) (14 * r + 5 * l + 3) 0) (14 * r + 5 * l + 4) (nI w), fun j => if 24 * r + 12 + 6 * l + 0 ≤ j ∧ j < 24 * r + 12 + 6 * l + 6 then mf (j - 12) else mf j))) = some (mw', mf') ∧ LR (atake x w b n) mw' mf' r l ∧ NR nm (atr pw tr w) mw' r ∧ FrW mw mw' r l ∧ FrF mf mf' r l := by
    intro M hM1 hM2 hM3
    rw [gd_iok (by omega) (by omega)]
    by_cases h0 : n = 0
    · subst h0
      rw [if_pos (show nI 0 = 0 from rfl), p6_steadies (a := b) hr hl (by omega) (by simp (disch := omega) only [upd_s, upd_n])]
      refine ⟨_, _, rfl, ?_, ?_, ?_, ?_⟩
      · unfold atake LR
        simp only [if_true]
        refine ⟨?_, ?_, ?_, ?_, ?_, fun s hs => ?_, fun h => absurd rfl h⟩
        · simp (disch := omega) only [upd_s, upd_n]
        · simp (disch := omega) only [upd_s, upd_n]; rfl
        · simp (disch := omega) only [upd_s, upd_n]; rfl
        · simp (disch := omega) only [upd_s, upd_n]; rfl
        · simp (disch := omega) only [upd_s, upd_n]; rfl
        · rw [if_pos (by omega)]
          unfold stl
          rw [if_pos hs]
          by_cases hsb : s = b
          · rw [if_pos (by omega), if_pos hsb]
          · rw [if_neg (by omega), if_neg hsb]
      · refine ⟨fun k hk => ?_, ?_⟩
        · simp (disch := omega) only [upd_n]; exact hM1 k hk
        · simp (disch := omega) only [upd_n]; exact hM2
      · intro j h1 h2
        simp (disch := omega) only [upd_n]
        exact hM3 j h2
      · intro j h1 h2
        simp only
        rw [if_neg h1, if_neg (by omega)]
    · rw [if_neg (show ¬ nI n = 0 by show ¬ nI n = nI 0; rw [eq_nI (by omega) (by omega)]; exact h0)]
      refine ⟨_, _, rfl, ?_, ?_, ?_, ?_⟩
      · unfold atake LR
        simp only [if_neg h0]
        refine ⟨?_, ?_, ?_, ?_, ?_, fun s hs => ?_, fun _ s hs => ?_⟩
        · simp (disch := omega) only [upd_s, upd_n]
        · simp (disch := omega) only [upd_s, upd_n]; rfl
        · simp (disch := omega) only [upd_s, upd_n]; rfl
        · simp (disch := omega) only [upd_s, upd_n]; rfl
        · simp (disch := omega) only [upd_s, upd_n]; rfl
        · rw [if_neg (by omega)]; exact x6 s hs
        · rw [if_pos (by omega), cp6_lt hs, ← x6 s hs]
          congr 1
          omega
      · refine ⟨fun k hk => ?_, ?_⟩
        · simp (disch := omega) only [upd_n]; exact hM1 k hk
        · simp (disch := omega) only [upd_n]; exact hM2
      · intro j h1 h2
        simp (disch := omega) only [upd_n]
        exact hM3 j h2
      · intro j h1 h2
        simp only
        rw [if_neg (by omega)]
  unfold f_X6_takes
  simp (disch := omega) only [l2, l3, l4, l5, l6, l8, l10, l12, l13, l14, l24, ad0, ad1, mu_nI, ad_nI, cl_nI, gd_iok]
  rw [e1, e2, e4, e5]
  by_cases h3 : pw w 4 = nI 3
  · rw [if_pos h3, hN.2]
    rw [show f_X6_takes_L128 (nI r) (nI l) 1000 0 mf = f_X6_takes_L128 (nI r) (nI l) 1000 (nI 0) mf from rfl, p6_takes_L hr hl _ 6 1000 0 mf (by omega) (by omega) (by omega)]
    simp only [Option.bind_some]
    have hk := key (upd mw (14 * r + 13) (tr &&& (((1 : Int32) <<< (nI p &&& 31)) ^^^ (-1)))) (fun k hk => by rw [upd_n (by omega)]; exact hN.1 k hk) (by rw [upd_s]; unfold atr; rw [if_pos (show pw w 4 = 3 from h3), hp]) (fun j hj => upd_n hj)
    rw [gd_iok (by omega) (by omega)] at hk
    exact hk
  · rw [if_neg h3]
    rw [show f_X6_takes_L128 (nI r) (nI l) 1000 0 mf = f_X6_takes_L128 (nI r) (nI l) 1000 (nI 0) mf from rfl, p6_takes_L hr hl _ 6 1000 0 mf (by omega) (by omega) (by omega)]
    simp only [Option.bind_some]
    have hk := key mw hN.1 (by unfold atr; rw [if_neg (show ¬ pw w 4 = 3 from h3)]; exact hN.2) (fun j _ => rfl)
    rw [gd_iok (by omega) (by omega)] at hk
    exact hk
theorem p6_blend_L {mw : Nat → Int32} {r l a D n : Nat} (hr : r < 12) (hl : l < 2) (ha : a < 6) (h0 : mw (14 * r + 5 * l) = nI a) (hn : n ∈ [1, 2, 4, 8, 16]) (hD : D < n + 1) (hD1 : 1 ≤ D) :
    ∀ (k m x : Nat) (mf : Nat → UInt32), (∀ s, s < 6 → Sh (mf (24 * r + 12 + 6 * l + s))) → k = 6 - x → x ≤ 6 → k < m → f_X6_frames_L155 (nI r) (nI l) m (nI x) mf (ur D n) (uu D n) mw = some (nI 6, ur D n, uu D n, mw, fun j => if 24 * r + 6 * l + x ≤ j ∧ j < 24 * r + 6 * l + 6 then (if j = 24 * r + 6 * l + a then FP.fadd (FP.fmul (mf (j + 12)) (ur D n)) (uu D n) else FP.fmul (mf (j + 12)) (ur D n)) else mf j) := by
  intro k
  induction k with
  | zero =>
    intro m x mf hs hk hx hm
    obtain ⟨m, rfl⟩ : ∃ q, m = q + 1 := ⟨m - 1, by omega⟩
    have : x = 6 := by omega
    subst this
    unfold f_X6_frames_L155
    rw [if_pos (show (6 : Int32) ≤ nI 6 from Int32.le_refl _)]
    congr 5
    funext j
    rw [if_neg (by omega)]
  | succ k ih =>
    intro m x mf hs hk hx hm
    obtain ⟨m, rfl⟩ : ∃ q, m = q + 1 := ⟨m - 1, by omega⟩
    obtain ⟨u1, u2, u3, u4, u5, u6⟩ := Sh_blend (hs x (by omega)) hn hD hD1
    unfold f_X6_frames_L155
    rw [if_neg (show ¬ (6 : Int32) ≤ nI x by show ¬ nI 6 ≤ nI x; rw [le_nI (by omega) (by omega)]; omega)]
    simp (disch := omega) only [l2, l3, l4, l5, l6, l8, l10, l12, l13, l14, l24, ad0, ad1, mu_nI, ad_nI, cl_nI, gd_iok]
    rw [h0, gd_t u3, gd_t u5]
    have hs2 : ∀ v : UInt32, ∀ s, s < 6 → Sh (vf_upd mf (24 * r + 6 * l + x) v (24 * r + 12 + 6 * l + s)) := fun v s h => by rw [vfu_n (by omega)]; exact hs s h
    by_cases hxa : x = a
    · rw [if_pos (by rw [hxa]), ih m (x + 1) _ (hs2 _) (by omega) (by omega) (by omega)]
      congr 5
      funext j
      by_cases h1 : j = 24 * r + 6 * l + x
      · subst h1
        rw [if_neg (by omega), vfu_s, if_pos (by omega), if_pos (by omega), show 24 * r + 12 + 6 * l + x = 24 * r + 6 * l + x + 12 by omega]
      · by_cases h2 : 24 * r + 6 * l + x ≤ j ∧ j < 24 * r + 6 * l + 6
        · rw [if_pos (by omega), if_pos h2, vfu_n (by omega)]
        · rw [if_neg (by omega), if_neg h2, vfu_n h1]
    · rw [if_neg (by rw [eq_nI (by omega) (by omega)]; exact hxa), ih m (x + 1) _ (hs2 _) (by omega) (by omega) (by omega)]
      congr 5
      funext j
      by_cases h1 : j = 24 * r + 6 * l + x
      · subst h1
        rw [if_neg (by omega), vfu_s, if_pos (by omega), if_neg (by omega), show 24 * r + 12 + 6 * l + x = 24 * r + 6 * l + x + 12 by omega]
      · by_cases h2 : 24 * r + 6 * l + x ≤ j ∧ j < 24 * r + 6 * l + 6
        · rw [if_pos (by omega), if_pos h2, vfu_n (by omega)]
        · rw [if_neg (by omega), if_neg h2, vfu_n h1]
def rjn (i : Int32) (k : Int32) (v : Int32) (mw : Nat → Int32) (mf : Nat → UInt32) : Option ((Nat → Int32) × (Nat → UInt32)) := (gd (iok ((((14 : Int32) * i) + ((5 : Int32) * k)) + 1) 168) (gd (iok ((((14 : Int32) * i) + ((5 : Int32) * k)) + 4) 168) (if ((upd mw (((((14 : Int32) * i) + ((5 : Int32) * k)) + 1).toNatClampNeg) v) (((((14 : Int32) * i) + ((5 : Int32) * k)) + 4).toNatClampNeg)) = (-1) then (some ((upd mw (((((14 : Int32) * i) + ((5 : Int32) * k)) + 1).toNatClampNeg) v), mf)) else (gd (iok ((((14 : Int32) * i) + ((5 : Int32) * k)) + 3) 168) (gd (iok ((((14 : Int32) * i) + ((5 : Int32) * k)) + 3) 168) (gd (iok ((((14 : Int32) * i) + ((5 : Int32) * k)) + 3) 168) (gd (iok ((((14 : Int32) * i) + ((5 : Int32) * k)) + 2) 168) (gd (fok (FP.fdiv (FP.i2f ((upd (upd mw (((((14 : Int32) * i) + ((5 : Int32) * k)) + 1).toNatClampNeg) v) (((((14 : Int32) * i) + ((5 : Int32) * k)) + 3).toNatClampNeg) (((upd mw (((((14 : Int32) * i) + ((5 : Int32) * k)) + 1).toNatClampNeg) v) (((((14 : Int32) * i) + ((5 : Int32) * k)) + 3).toNatClampNeg)) + 1)) (((((14 : Int32) * i) + ((5 : Int32) * k)) + 3).toNatClampNeg))) (FP.i2f ((upd (upd mw (((((14 : Int32) * i) + ((5 : Int32) * k)) + 1).toNatClampNeg) v) (((((14 : Int32) * i) + ((5 : Int32) * k)) + 3).toNatClampNeg) (((upd mw (((((14 : Int32) * i) + ((5 : Int32) * k)) + 1).toNatClampNeg) v) (((((14 : Int32) * i) + ((5 : Int32) * k)) + 3).toNatClampNeg)) + 1)) (((((14 : Int32) * i) + ((5 : Int32) * k)) + 2).toNatClampNeg))))) (gd (fok (FP.fsub FP.fconst1 (FP.fdiv (FP.i2f ((upd (upd mw (((((14 : Int32) * i) + ((5 : Int32) * k)) + 1).toNatClampNeg) v) (((((14 : Int32) * i) + ((5 : Int32) * k)) + 3).toNatClampNeg) (((upd mw (((((14 : Int32) * i) + ((5 : Int32) * k)) + 1).toNatClampNeg) v) (((((14 : Int32) * i) + ((5 : Int32) * k)) + 3).toNatClampNeg)) + 1)) (((((14 : Int32) * i) + ((5 : Int32) * k)) + 3).toNatClampNeg))) (FP.i2f ((upd (upd mw (((((14 : Int32) * i) + ((5 : Int32) * k)) + 1).toNatClampNeg) v) (((((14 : Int32) * i) + ((5 : Int32) * k)) + 3).toNatClampNeg) (((upd mw (((((14 : Int32) * i) + ((5 : Int32) * k)) + 1).toNatClampNeg) v) (((((14 : Int32) * i) + ((5 : Int32) * k)) + 3).toNatClampNeg)) + 1)) (((((14 : Int32) * i) + ((5 : Int32) * k)) + 2).toNatClampNeg)))))) ((f_X6_frames_L155 i k 1000 0 mf (FP.fsub FP.fconst1 (FP.fdiv (FP.i2f ((upd (upd mw (((((14 : Int32) * i) + ((5 : Int32) * k)) + 1).toNatClampNeg) v) (((((14 : Int32) * i) + ((5 : Int32) * k)) + 3).toNatClampNeg) (((upd mw (((((14 : Int32) * i) + ((5 : Int32) * k)) + 1).toNatClampNeg) v) (((((14 : Int32) * i) + ((5 : Int32) * k)) + 3).toNatClampNeg)) + 1)) (((((14 : Int32) * i) + ((5 : Int32) * k)) + 3).toNatClampNeg))) (FP.i2f ((upd (upd mw (((((14 : Int32) * i) + ((5 : Int32) * k)) + 1).toNatClampNeg) v) (((((14 : Int32) * i) + ((5 : Int32) * k)) + 3).toNatClampNeg) (((upd mw (((((14 : Int32) * i) + ((5 : Int32) * k)) + 1).toNatClampNeg) v) (((((14 : Int32) * i) + ((5 : Int32) * k)) + 3).toNatClampNeg)) + 1)) (((((14 : Int32) * i) + ((5 : Int32) * k)) + 2).toNatClampNeg))))) (FP.fdiv (FP.i2f ((upd (upd mw (((((14 : Int32) * i) + ((5 : Int32) * k)) + 1).toNatClampNeg) v) (((((14 : Int32) * i) + ((5 : Int32) * k)) + 3).toNatClampNeg) (((upd mw (((((14 : Int32) * i) + ((5 : Int32) * k)) + 1).toNatClampNeg) v) (((((14 : Int32) * i) + ((5 : Int32) * k)) + 3).toNatClampNeg)) + 1)) (((((14 : Int32) * i) + ((5 : Int32) * k)) + 3).toNatClampNeg))) (FP.i2f ((upd (upd mw (((((14 : Int32) * i) + ((5 : Int32) * k)) + 1).toNatClampNeg) v) (((((14 : Int32) * i) + ((5 : Int32) * k)) + 3).toNatClampNeg) (((upd mw (((((14 : Int32) * i) + ((5 : Int32) * k)) + 1).toNatClampNeg) v) (((((14 : Int32) * i) + ((5 : Int32) * k)) + 3).toNatClampNeg)) + 1)) (((((14 : Int32) * i) + ((5 : Int32) * k)) + 2).toNatClampNeg)))) (upd (upd mw (((((14 : Int32) * i) + ((5 : Int32) * k)) + 1).toNatClampNeg) v) (((((14 : Int32) * i) + ((5 : Int32) * k)) + 3).toNatClampNeg) (((upd mw (((((14 : Int32) * i) + ((5 : Int32) * k)) + 1).toNatClampNeg) v) (((((14 : Int32) * i) + ((5 : Int32) * k)) + 3).toNatClampNeg)) + 1))).bind fun (q25, q26, q27, q28, q29) => (gd (iok ((((14 : Int32) * i) + ((5 : Int32) * k)) + 3) 168) (gd (iok ((((14 : Int32) * i) + ((5 : Int32) * k)) + 2) 168) (if (q28 (((((14 : Int32) * i) + ((5 : Int32) * k)) + 3).toNatClampNeg)) = (q28 (((((14 : Int32) * i) + ((5 : Int32) * k)) + 2).toNatClampNeg)) then ((f_X6_steadies q28 q29 i k).bind fun (o33, o34) => (some (o33, o34))) else (some (q28, q29)))))))))))))))
theorem J97_eq (i k : Int32) (mw : Nat → Int32) (mf : Nat → UInt32) : f_X6_frames_J97 i k mw mf = rjn i k 9999 mw mf := rfl
theorem J63_eq (i k : Int32) (mw : Nat → Int32) (mf : Nat → UInt32) : f_X6_frames_J63 i k mw mf = gd (iok ((((14 : Int32) * i) + ((5 : Int32) * k)) + 1) 168) (if 9999 ≤ (mw (((((14 : Int32) * i) + ((5 : Int32) * k)) + 1).toNatClampNeg)) then rjn i k 9999 mw mf else gd (iok ((((14 : Int32) * i) + ((5 : Int32) * k)) + 1) 168) (rjn i k ((mw (((((14 : Int32) * i) + ((5 : Int32) * k)) + 1).toNatClampNeg)) + 1) mw mf)) := rfl
theorem p6_rjn {S W : Nat} (hS : S ≤ 6) (hW : W ≤ 12) {mw : Nat → Int32} {mf : Nat → UInt32} {r l : Nat} {y : AL} (hr : r < 12) (hl : l < 2) (hy : ALOK S W y) (hx : LR y mw mf r l) :
    ∃ mw' mf', rjn (nI r) (nI l) (nI (min (y.2.1 + 1) 9999)) mw mf = some (mw', mf') ∧ LR (atick y) mw' mf' r l ∧ FrF mf mf' r l ∧ (∀ j, ¬ (14 * r + 5 * l ≤ j ∧ j < 14 * r + 5 * l + 5) → mw' j = mw j) := by
  obtain ⟨a, t, b, sh, sb⟩ := y
  obtain ⟨y1, y2, y3, y4, y5⟩ := hy
  obtain ⟨x1, x2, x3, x4, x5, x6, x7⟩ := hx
  simp only at y1 y2 y3 y4 y5 x1 x2 x3 x4 x5 x6 x7
  unfold rjn
  simp (disch := omega) only [l2, l3, l4, l5, l6, l8, l10, l12, l13, l14, l24, ad0, ad1, mu_nI, ad_nI, cl_nI, gd_iok, upd_s, upd_n]
  rw [x5]
  cases b with
  | none =>
    rw [if_pos (show bwI none = -1 from rfl)]
    refine ⟨_, _, rfl, ?_, fun j _ _ => rfl, fun j hj => by simp (disch := omega) only [upd_n]⟩
    unfold atick LR
    simp only
    refine ⟨?_, ?_, ?_, ?_, ?_, x6, fun h => absurd rfl h⟩
    · simp (disch := omega) only [upd_n]; exact x1
    · simp (disch := omega) only [upd_s]
    · simp (disch := omega) only [upd_n]; exact x3
    · simp (disch := omega) only [upd_n]; exact x4
    · simp (disch := omega) only [upd_n]; exact x5
  | some q =>
    obtain ⟨w, n, d⟩ := q
    obtain ⟨g1, g2, g3, g4, g5⟩ := y3
    have hn16 : n < 100 := by
      simp only [List.mem_cons, List.not_mem_nil, or_false] at g2
      omega
    have x3' : mw (14 * r + 5 * l + 2) = nI n := x3
    have x4' : mw (14 * r + 5 * l + 3) = nI d := x4
    have hsb : ∀ s, s < 6 → mf (24 * r + 12 + 6 * l + s) = sb s := x7 (by simp)
    rw [if_neg (show ¬ bwI (some (w, n, d)) = -1 from m1_ne w (by omega)), x3', x4']
    simp only [ad1]
    obtain ⟨u1, u2, -⟩ := Sh_blend (g4 0 (by omega)) g2 (show d + 1 < n + 1 by omega) (by omega)
    simp only [show FP.fdiv (FP.i2f (nI (d + 1))) (FP.i2f (nI n)) = uu (d + 1) n from rfl, show FP.fsub FP.fconst1 (uu (d + 1) n) = ur (d + 1) n from rfl]
    rw [gd_t u1, gd_t u2]
    rw [show f_X6_frames_L155 (nI r) (nI l) 1000 0 mf = f_X6_frames_L155 (nI r) (nI l) 1000 (nI 0) mf from rfl]
    rw [p6_blend_L (a := a) hr hl (by omega) (by simp (disch := omega) only [upd_n]; exact x1) g2 (by omega) (by omega) 6 1000 0 mf (fun s hs => by rw [hsb s hs]; exact g4 s hs) (by omega) (by omega) (by omega)]
    simp only [Option.bind_some]
    simp (disch := omega) only [upd_s, upd_n]
    rw [x3']
    by_cases hd : d + 1 < n
    · rw [if_neg (by rw [eq_nI (by omega) (by omega)]; omega)]
      refine ⟨_, _, rfl, ?_, ?_, fun j hj => by simp (disch := omega) only [upd_n]⟩
      · unfold atick LR
        simp only [if_pos hd]
        refine ⟨?_, ?_, ?_, ?_, ?_, fun s hs => ?_, fun _ s hs => ?_⟩
        · simp (disch := omega) only [upd_n]; exact x1
        · simp (disch := omega) only [upd_s, upd_n]
        · simp (disch := omega) only [upd_n]; exact x3
        · simp (disch := omega) only [upd_s]; rfl
        · simp (disch := omega) only [upd_n]; exact x5
        · rw [if_pos (by omega)]
          unfold bld
          rw [if_pos hs, show 24 * r + 6 * l + s + 12 = 24 * r + 12 + 6 * l + s by omega, hsb s hs]
          by_cases hsa : s = a
          · rw [if_pos (by omega), if_pos hsa]
          · rw [if_neg (by omega), if_neg hsa]
        · rw [if_neg (by omega)]; exact hsb s hs
      · intro j h1 h2
        simp only
        rw [if_neg (by omega)]
    · rw [if_pos (by rw [show d + 1 = n by omega]), p6_steadies (a := a) hr hl (by omega) (by simp (disch := omega) only [upd_n]; exact x1)]
      simp only [Option.bind_some]
      refine ⟨_, _, rfl, ?_, ?_, fun j hj => by simp (disch := omega) only [upd_n]⟩
      · unfold atick LR
        simp only [if_neg hd]
        refine ⟨?_, ?_, ?_, ?_, ?_, fun s hs => ?_, fun h => absurd rfl h⟩
        · simp (disch := omega) only [upd_n]; exact x1
        · simp (disch := omega) only [upd_s, upd_n]
        · simp (disch := omega) only [upd_s, upd_n]; rfl
        · simp (disch := omega) only [upd_s, upd_n]; rfl
        · simp (disch := omega) only [upd_s]; rfl
        · rw [if_pos (by omega)]
          unfold stl
          rw [if_pos hs]
          by_cases hsa : s = a
          · rw [if_pos (by omega), if_pos hsa]
          · rw [if_neg (by omega), if_neg hsa]
      · intro j h1 h2
        simp only
        rw [if_neg h1, if_neg (by omega)]
theorem p6_J63 {S W : Nat} (hS : S ≤ 6) (hW : W ≤ 12) {mw : Nat → Int32} {mf : Nat → UInt32} {r l : Nat} {y : AL} (hr : r < 12) (hl : l < 2) (hy : ALOK S W y) (hx : LR y mw mf r l) :
    ∃ mw' mf', f_X6_frames_J63 (nI r) (nI l) mw mf = some (mw', mf') ∧ LR (atick y) mw' mf' r l ∧ FrF mf mf' r l ∧ (∀ j, ¬ (14 * r + 5 * l ≤ j ∧ j < 14 * r + 5 * l + 5) → mw' j = mw j) := by
  have h1 := p6_rjn hS hW hr hl hy hx
  rw [J63_eq]
  simp (disch := omega) only [l2, l3, l4, l5, l6, l8, l10, l12, l13, l14, l24, ad0, ad1, mu_nI, ad_nI, cl_nI, gd_iok]
  rw [hx.2.1]
  have ht := hy.2.1
  by_cases h : 9999 ≤ y.2.1
  · rw [if_pos (show (9999 : Int32) ≤ nI y.2.1 by show nI 9999 ≤ nI y.2.1; rw [le_nI (by omega) (by omega)]; exact h)]
    rw [show min (y.2.1 + 1) 9999 = 9999 by omega] at h1
    exact h1
  · rw [if_neg (show ¬ (9999 : Int32) ≤ nI y.2.1 by show ¬ nI 9999 ≤ nI y.2.1; rw [le_nI (by omega) (by omega)]; exact h), ad1]
    rw [show min (y.2.1 + 1) 9999 = y.2.1 + 1 by omega] at h1
    exact h1
/-- a frame of a layer of the reference -/
theorem p6_frames {S W : Nat} {pw : Nat → Nat → Int32} {mof mw nm : Nat → Int32} {mf : Nat → UInt32} {tr : Int32} {r l : Nat} {x : AL} (hF : FigOK S W pw) (hR : WR W pw mof) (hr : r < 12) (hl : l < 2) (hN : NR nm tr mw r) (hxo : ALOK S W x) (hx : LR x mw mf r l) :
    ∃ mw' mf', f_X6_frames (nI W) mof mw mf (nI r) (nI l) = some (mw', mf') ∧ LR (astep pw W nm tr x).1 mw' mf' r l ∧ NR nm (astep pw W nm tr x).2 mw' r ∧ FrW mw mw' r l ∧ FrF mf mf' r l := by
  have hS := hF.1
  have hW := hF.2.1
  -- nothing is taken
  have stay : ∃ mw' mf', f_X6_frames_J63 (nI r) (nI l) mw mf = some (mw', mf') ∧ LR (atick x) mw' mf' r l ∧ NR nm tr mw' r ∧ FrW mw mw' r l ∧ FrF mf mf' r l := by
    obtain ⟨mw', mf', h1, h2, h3, h4⟩ := p6_J63 hS hW hr hl hxo hx
    refine ⟨mw', mf', h1, h2, ⟨fun k hk => by rw [h4 _ (by omega)]; exact hN.1 k hk, by rw [h4 _ (by omega)]; exact hN.2⟩, fun j h5 _ => h4 j h5, h3⟩
  -- a way is taken
  have move : ∀ w, fwB (fun v => opn (pw v) (nI x.1) (nI x.2.1) nm tr) W 0 = some w → ∃ mw' mf', ((f_X6_takes mof mw mf (nI r) (nI l) (nI w)).bind fun q => f_X6_frames_J63 (nI r) (nI l) q.1 q.2) = some (mw', mf') ∧ LR (atick (atake x w (pw w 1).toNatClampNeg (pw w 2).toNatClampNeg)) mw' mf' r l ∧ NR nm (atr pw tr w) mw' r ∧ FrW mw mw' r l ∧ FrF mf mf' r l := by
    intro w hw
    have hlt : w < W := by have := (fwB_lt hw).2.1; omega
    obtain ⟨-, ⟨b, hb, hbS⟩, ⟨n, hn, hnl⟩, -⟩ := hF.2.2 w hlt
    have hn16 : n < 100 := by
      simp only [List.mem_cons, List.not_mem_nil, or_false] at hnl
      omega
    obtain ⟨mw1, mf1, t1, t2, t3, t4, t5⟩ := p6_takes hF hR hr hl hlt hN hx hb hbS hn hn16
    obtain ⟨mw', mf', h1, h2, h3, h4⟩ := p6_J63 hS hW hr hl (atake_ok hxo hlt hbS hnl) t2
    rw [t1]
    rw [hb, hn, cl_nI (by omega), cl_nI (by omega)]
    refine ⟨mw', mf', h1, h2, ⟨fun k hk => by rw [h4 _ (by omega)]; exact t3.1 k hk, by rw [h4 _ (by omega)]; exact t3.2⟩, fun j h5 h6 => by rw [h4 j h5]; exact t4 j h5 h6, fun j h5 h6 => by rw [h3 j h5 h6]; exact t5 j h5 h6⟩
  have go : ∃ mw' mf', ((f_X6_taken (nI W) mof mw (nI r) (nI l)).bind fun r3 => (if r3 = (-1) then (f_X6_frames_J63 (nI r) (nI l) mw mf) else ((f_X6_takes mof mw mf (nI r) (nI l) r3).bind fun (o59, o60) => (f_X6_frames_J63 (nI r) (nI l) o59 o60)))) = some (mw', mf') ∧ LR (match fwB (fun v => opn (pw v) (nI x.1) (nI x.2.1) nm tr) W 0 with | none => atick x | some w => atick (atake x w (pw w 1).toNatClampNeg (pw w 2).toNatClampNeg)) mw' mf' r l ∧ NR nm (match fwB (fun v => opn (pw v) (nI x.1) (nI x.2.1) nm tr) W 0 with | none => tr | some w => atr pw tr w) mw' r ∧ FrW mw mw' r l ∧ FrF mf mf' r l := by
    rw [p6_taken hF hR hr hl hN hx.1 hx.2.1]
    cases hq : fwB (fun v => opn (pw v) (nI x.1) (nI x.2.1) nm tr) W 0 with
    | none =>
      simp only [Option.bind_some, mI, if_true]
      exact stay
    | some w =>
      have hlt : w < W := by have := (fwB_lt hq).2.1; omega
      simp only [Option.bind_some, mI]
      rw [if_neg (m1_ne w (by omega))]
      exact move w hq
  unfold f_X6_frames
  simp (disch := omega) only [l2, l3, l4, l5, l6, l8, l10, l12, l13, l14, l24, ad0, ad1, mu_nI, ad_nI, cl_nI, gd_iok]
  rw [hx.2.2.2.2.1]
  unfold astep ago afree
  cases hb : x.2.2.1 with
  | none =>
    rw [if_pos (show bwI none = -1 from rfl)]
    simp only [if_true]
    revert go
    cases hq : fwB (fun v => opn (pw v) (nI x.1) (nI x.2.1) nm tr) W 0 with
    | none => exact fun g => g
    | some w => exact fun g => g
  | some q =>
    obtain ⟨w, n, d⟩ := q
    have hwW : w < W := by
      obtain ⟨-, -, h3, -, -⟩ := hxo
      rw [hb] at h3
      exact h3.1
    rw [show bwI (some (w, n, d)) = nI w from rfl, if_neg (m1_ne w (by omega))]
    simp (disch := omega) only [l2, l3, l4, l5, l6, l8, l10, l12, l13, l14, l24, ad0, ad1, mu_nI, ad_nI, cl_nI, gd_iok]
    rw [hR w hwW 3 (by omega)]
    by_cases hbr : pw w 3 = 1
    · rw [if_pos hbr]
      simp only [hbr, decide_true, if_true]
      revert go
      cases hq : fwB (fun v => opn (pw v) (nI x.1) (nI x.2.1) nm tr) W 0 with
      | none => exact fun g => g
      | some w => exact fun g => g
    · rw [if_neg hbr]
      simp only [hbr, decide_false, Bool.false_eq_true, if_false]
      exact stay
