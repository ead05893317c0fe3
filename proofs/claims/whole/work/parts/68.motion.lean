/-! ===== motions: copied, moved on, in both ===== -/
abbrev AM : Type := AL × AL × (Nat → Int32) × Int32
def laT (x : AL) : LyT := (nI x.1, nI x.2.1, bwI x.2.2.1, bfI x.2.2.1, bdI x.2.2.1, x.2.2.2.1, x.2.2.2.2)
def moT (m : AM) : MoT := (laT m.1, laT m.2.1, m.2.2.1, m.2.2.2)
def cpL (d : LyT) (x : AL) : AL := (x.1, x.2.1, x.2.2.1, cp6 x.2.2.2.1 d.2.2.2.2.2.1, cp6 x.2.2.2.2 d.2.2.2.2.2.2)
def cpM (d : MoT) (m : AM) : AM := (cpL d.1 m.1, cpL d.2.1 m.2.1, va_cpy m.2.2.1 d.2.2.1 0 0 3, m.2.2.2)
def MR (m : AM) (mw : Nat → Int32) (mf : Nat → UInt32) (r : Nat) : Prop := LR m.1 mw mf r 0 ∧ LR m.2.1 mw mf r 1 ∧ NR m.2.2.1 m.2.2.2 mw r
def MOK (S W : Nat) (m : AM) : Prop := ALOK S W m.1 ∧ ALOK S W m.2.1
theorem cpL_ok {S W : Nat} {d : LyT} {x : AL} (h : ALOK S W x) : ALOK S W (cpL d x) := by
  obtain ⟨a, t, b, sh, sb⟩ := x
  obtain ⟨h1, h2, h3, h4, h5⟩ := h
  simp only at h1 h2 h3 h4 h5
  refine ⟨h1, h2, ?_, fun s hs => ?_, fun s hs hm => ?_⟩
  · cases b with
    | none => trivial
    | some q =>
      obtain ⟨w, n, e⟩ := q
      obtain ⟨g1, g2, g3, g4, g5⟩ := h3
      refine ⟨g1, g2, g3, fun s hs => ?_, fun s hs hm => ?_⟩
      · show Sh (cp6 sb _ s)
        rw [cp6_lt hs]; exact g4 s hs
      · show cp6 sb _ s = _
        rw [cp6_lt hs]; exact g5 s hs hm
  · show Sh (cp6 sh _ s)
    rw [cp6_lt hs]; exact h4 s hs
  · show cp6 sh _ s = _
    rw [cp6_lt hs]; exact h5 s hs hm
theorem cpM_ok {S W : Nat} {d : MoT} {m : AM} (h : MOK S W m) : MOK S W (cpM d m) := ⟨cpL_ok h.1, cpL_ok h.2⟩
theorem cpL_LR {d : LyT} {x : AL} {mw : Nat → Int32} {mf : Nat → UInt32} {r l : Nat} (h : LR x mw mf r l) : LR (cpL d x) mw mf r l := by
  obtain ⟨x1, x2, x3, x4, x5, x6, x7⟩ := h
  refine ⟨x1, x2, x3, x4, x5, fun s hs => ?_, fun hb s hs => ?_⟩
  · rw [x6 s hs]; exact (cp6_lt hs).symm
  · rw [x7 hb s hs]; exact (cp6_lt hs).symm
theorem cpM_MR {d : MoT} {m : AM} {mw : Nat → Int32} {mf : Nat → UInt32} {r : Nat} (h : MR m mw mf r) : MR (cpM d m) mw mf r := by
  refine ⟨cpL_LR h.1, cpL_LR h.2.1, fun k hk => ?_, h.2.2.2⟩
  rw [h.2.2.1 k hk]
  show _ = va_cpy m.2.2.1 d.2.2.1 0 0 3 k
  rw [pk_cpy_in (Nat.zero_le _) (by omega)]
  simp
/-- a row is as another was -/
def SR (mw mw' : Nat → Int32) (mf mf' : Nat → UInt32) (r r' : Nat) : Prop := (∀ j, j < 14 → mw' (14 * r' + j) = mw (14 * r + j)) ∧ ∀ j, j < 24 → mf' (24 * r' + j) = mf (24 * r + j)
theorem SR.tr {mw mw' mw'' : Nat → Int32} {mf mf' mf'' : Nat → UInt32} {r r' r'' : Nat} (h : SR mw mw' mf mf' r r') (h' : SR mw' mw'' mf' mf'' r' r'') : SR mw mw'' mf mf'' r r'' := ⟨fun j hj => by rw [h'.1 j hj, h.1 j hj], fun j hj => by rw [h'.2 j hj, h.2 j hj]⟩
theorem SR.rf {mw : Nat → Int32} {mf : Nat → UInt32} {r : Nat} : SR mw mw mf mf r r := ⟨fun _ _ => rfl, fun _ _ => rfl⟩
theorem LR_row {x : AL} {mw mw' : Nat → Int32} {mf mf' : Nat → UInt32} {r r' l : Nat} (hl : l < 2) (h : LR x mw mf r l) (hs : SR mw mw' mf mf' r r') : LR x mw' mf' r' l := by
  obtain ⟨x1, x2, x3, x4, x5, x6, x7⟩ := h
  obtain ⟨s1, s2⟩ := hs
  refine ⟨?_, ?_, ?_, ?_, ?_, fun s hs => ?_, fun hb s hs => ?_⟩
  · rw [s1 (5 * l) (by omega)]; exact x1
  · rw [Nat.add_assoc, s1 (5 * l + 1) (by omega), ← Nat.add_assoc]; exact x2
  · rw [Nat.add_assoc, s1 (5 * l + 2) (by omega), ← Nat.add_assoc]; exact x3
  · rw [Nat.add_assoc, s1 (5 * l + 3) (by omega), ← Nat.add_assoc]; exact x4
  · rw [Nat.add_assoc, s1 (5 * l + 4) (by omega), ← Nat.add_assoc]; exact x5
  · rw [Nat.add_assoc, s2 (6 * l + s) (by omega), ← Nat.add_assoc]; exact x6 s hs
  · rw [show 24 * r' + 12 + 6 * l + s = 24 * r' + (12 + 6 * l + s) by omega, s2 (12 + 6 * l + s) (by omega), show 24 * r + (12 + 6 * l + s) = 24 * r + 12 + 6 * l + s by omega]; exact x7 hb s hs
theorem MR_row {m : AM} {mw mw' : Nat → Int32} {mf mf' : Nat → UInt32} {r r' : Nat} (h : MR m mw mf r) (hs : SR mw mw' mf mf' r r') : MR m mw' mf' r' := by
  refine ⟨LR_row (by omega) h.1 hs, LR_row (by omega) h.2.1 hs, fun k hk => ?_, ?_⟩
  · rw [Nat.add_assoc, hs.1 (10 + k) (by omega), ← Nat.add_assoc]; exact h.2.2.1 k hk
  · rw [hs.1 13 (by omega)]; exact h.2.2.2
theorem p6_copy_L2 {r r' : Nat} (hr : r < 12) (hr' : r' < 12) (hne : r ≠ r') : ∀ (k n x : Nat) (mw : Nat → Int32), k = 14 - x → x ≤ 14 → k < n → f_X6_copy_L2 (nI r) (nI r') n (nI x) mw = some (nI 14, fun j => if 14 * r' + x ≤ j ∧ j < 14 * r' + 14 then mw (j + 14 * r - 14 * r') else mw j) := by
  intro k
  induction k with
  | zero =>
    intro n x mw hk hx hn
    obtain ⟨n, rfl⟩ : ∃ m, n = m + 1 := ⟨n - 1, by omega⟩
    have : x = 14 := by omega
    subst this
    unfold f_X6_copy_L2
    rw [if_pos (show (14 : Int32) ≤ nI 14 from Int32.le_refl _)]
    congr 2
    funext j
    rw [if_neg (by omega)]
  | succ k ih =>
    intro n x mw hk hx hn
    obtain ⟨n, rfl⟩ : ∃ m, n = m + 1 := ⟨n - 1, by omega⟩
    unfold f_X6_copy_L2
    rw [if_neg (show ¬ (14 : Int32) ≤ nI x by show ¬ nI 14 ≤ nI x; rw [le_nI (by omega) (by omega)]; omega)]
    simp (disch := omega) only [l14, mu_nI, ad_nI, ad1, gd_iok, cl_nI]
    rw [ih n (x + 1) _ (by omega) (by omega) (by omega)]
    congr 2
    funext j
    by_cases h1 : j = 14 * r' + x
    · subst h1
      rw [if_neg (by omega), upd_s, if_pos (by omega)]
      congr 1
      omega
    · by_cases h2 : 14 * r' + x ≤ j ∧ j < 14 * r' + 14
      · rw [if_pos (by omega), if_pos h2, upd_n (by omega)]
      · rw [if_neg (by omega), if_neg h2, upd_n h1]
theorem p6_copy_L38 {r r' : Nat} (hr : r < 12) (hr' : r' < 12) (hne : r ≠ r') (mw : Nat → Int32) : ∀ (k n x : Nat) (mf : Nat → UInt32), k = 24 - x → x ≤ 24 → k < n → f_X6_copy_L38 (nI r) (nI r') n (nI x) mf mw = some (nI 24, mw, fun j => if 24 * r' + x ≤ j ∧ j < 24 * r' + 24 then mf (j + 24 * r - 24 * r') else mf j) := by
  intro k
  induction k with
  | zero =>
    intro n x mf hk hx hn
    obtain ⟨n, rfl⟩ : ∃ m, n = m + 1 := ⟨n - 1, by omega⟩
    have : x = 24 := by omega
    subst this
    unfold f_X6_copy_L38
    rw [if_pos (show (24 : Int32) ≤ nI 24 from Int32.le_refl _)]
    congr 3
    funext j
    rw [if_neg (by omega)]
  | succ k ih =>
    intro n x mf hk hx hn
    obtain ⟨n, rfl⟩ : ∃ m, n = m + 1 := ⟨n - 1, by omega⟩
    unfold f_X6_copy_L38
    rw [if_neg (show ¬ (24 : Int32) ≤ nI x by show ¬ nI 24 ≤ nI x; rw [le_nI (by omega) (by omega)]; omega)]
    simp (disch := omega) only [l24, mu_nI, ad_nI, ad1, gd_iok, cl_nI]
    rw [ih n (x + 1) _ (by omega) (by omega) (by omega)]
    congr 3
    funext j
    by_cases h1 : j = 24 * r' + x
    · subst h1
      rw [if_neg (by omega), vfu_s, if_pos (by omega)]
      congr 1
      omega
    · by_cases h2 : 24 * r' + x ≤ j ∧ j < 24 * r' + 24
      · rw [if_pos (by omega), if_pos h2, vfu_n (by omega)]
      · rw [if_neg (by omega), if_neg h2, vfu_n h1]
/-- a row is copied: every other one stays -/
theorem p6_copy {mw : Nat → Int32} {mf : Nat → UInt32} {r r' : Nat} (hr : r < 12) (hr' : r' < 12) (hne : r ≠ r') :
    ∃ mw' mf', f_X6_copy mw mf (nI r) (nI r') = some (mw', mf') ∧ SR mw mw' mf mf' r r' ∧ ∀ q, q ≠ r' → SR mw mw' mf mf' q q := by
  unfold f_X6_copy
  rw [show f_X6_copy_L2 (nI r) (nI r') 1000 0 mw = f_X6_copy_L2 (nI r) (nI r') 1000 (nI 0) mw from rfl, p6_copy_L2 hr hr' hne 14 1000 0 mw (by omega) (by omega) (by omega)]
  simp only [Option.bind_some]
  rw [show ∀ M, f_X6_copy_L38 (nI r) (nI r') 1000 0 mf M = f_X6_copy_L38 (nI r) (nI r') 1000 (nI 0) mf M from fun _ => rfl, p6_copy_L38 hr hr' hne _ 24 1000 0 mf (by omega) (by omega) (by omega)]
  simp only [Option.bind_some]
  refine ⟨_, _, rfl, ⟨fun j hj => ?_, fun j hj => ?_⟩, fun q hq => ⟨fun j hj => ?_, fun j hj => ?_⟩⟩
  · simp only
    rw [if_pos (by omega)]; congr 1; omega
  · simp only
    rw [if_pos (by omega)]; congr 1; omega
  · simp only
    rw [if_neg (by omega)]
  · simp only
    rw [if_neg (by omega)]
theorem p6_minds_L : ∀ (k n x : Nat) (mw : Nat → Int32) (mf : Nat → UInt32), k = 7 - x → x ≤ 7 → k < n → ∃ mw' mf', f_X6_minds_L11 n (nI x) mw mf = some (nI 7, mw', mf') ∧ (∀ r, r < 4 + x ∨ r = 11 → SR mw mw' mf mf' r r) ∧ ∀ r, 4 + x ≤ r → r < 11 → SR mw mw' mf mf' (r + 1) r := by
  intro k
  induction k with
  | zero =>
    intro n x mw mf hk hx hn
    obtain ⟨n, rfl⟩ : ∃ m, n = m + 1 := ⟨n - 1, by omega⟩
    have : x = 7 := by omega
    subst this
    unfold f_X6_minds_L11
    rw [if_pos (show (7 : Int32) ≤ nI 7 from Int32.le_refl _)]
    exact ⟨mw, mf, rfl, fun r _ => SR.rf, fun r h1 h2 => by omega⟩
  | succ k ih =>
    intro n x mw mf hk hx hn
    obtain ⟨n, rfl⟩ : ∃ m, n = m + 1 := ⟨n - 1, by omega⟩
    unfold f_X6_minds_L11
    rw [if_neg (show ¬ (7 : Int32) ≤ nI x by show ¬ nI 7 ≤ nI x; rw [le_nI (by omega) (by omega)]; omega)]
    simp only [l4, ad_nI, ad1]
    obtain ⟨mw1, mf1, c1, c2, c3⟩ := p6_copy (mw := mw) (mf := mf) (r := 4 + x + 1) (r' := 4 + x) (by omega) (by omega) (by omega)
    obtain ⟨mw2, mf2, i1, i2, i3⟩ := ih n (x + 1) mw1 mf1 (by omega) (by omega) (by omega)
    rw [c1]
    simp only [Option.bind_some]
    refine ⟨mw2, mf2, i1, fun r hr => ?_, fun r h1 h2 => ?_⟩
    · exact (c3 r (by omega)).tr (i2 r (by omega))
    · by_cases h3 : r = 4 + x
      · subst h3; exact c2.tr (i2 _ (by omega))
      · exact (c3 (r + 1) (by omega)).tr (i3 r (by omega) h2)
/-- what is remembered: the newest is row 0, and those before it stand behind it -/
theorem p6_minds {mw : Nat → Int32} {mf : Nat → UInt32} {u : Nat} (hu : u ≤ 8) : ∃ mw' mf', f_X6_minds (nI u) mw mf = some (mw', mf', nI (min (u + 1) 8)) ∧ (∀ r, r < 4 → SR mw mw' mf mf' r r) ∧ SR mw mw' mf mf' 0 (4 + (min (u + 1) 8 - 1)) ∧ ∀ k, k < min (u + 1) 8 - 1 → SR mw mw' mf mf' (4 + k + (u + 1 - min (u + 1) 8)) (4 + k) := by
  unfold f_X6_minds
  by_cases h8 : u = 8
  · subst h8
    rw [if_pos (show nI 8 = 8 from rfl)]
    obtain ⟨mw1, mf1, i1, i2, i3⟩ := p6_minds_L 7 1000 0 mw mf (by omega) (by omega) (by omega)
    obtain ⟨mw2, mf2, c1, c2, c3⟩ := p6_copy (mw := mw1) (mf := mf1) (r := 0) (r' := 11) (by omega) (by omega) (by omega)
    rw [show f_X6_minds_L11 1000 0 mw mf = f_X6_minds_L11 1000 (nI 0) mw mf from rfl, i1]
    simp only [Option.bind_some]
    rw [show f_X6_copy mw1 mf1 0 ((4 : Int32) + (nI 8 - 1)) = f_X6_copy mw1 mf1 (nI 0) (nI 11) from rfl, c1]
    refine ⟨mw2, mf2, rfl, fun r hr => (i2 r (by omega)).tr (c3 r (by omega)), (i2 0 (by omega)).tr c2, fun k hk => ?_⟩
    have := (i3 (4 + k) (by omega) (by omega)).tr (c3 (4 + k) (by omega))
    exact this
  · rw [if_neg (show ¬ nI u = 8 by show ¬ nI u = nI 8; rw [eq_nI (by omega) (by omega)]; exact h8)]
    obtain ⟨mw2, mf2, c1, c2, c3⟩ := p6_copy (mw := mw) (mf := mf) (r := 0) (r' := 4 + u) (by omega) (by omega) (by omega)
    simp only [l4, ad_nI, ad1]
    rw [show f_X6_copy mw mf 0 (nI (4 + u)) = f_X6_copy mw mf (nI 0) (nI (4 + u)) from rfl, c1]
    have hm : min (u + 1) 8 = u + 1 := by omega
    rw [hm]
    refine ⟨mw2, mf2, rfl, fun r hr => c3 r (by omega), c2, fun k hk => ?_⟩
    rw [show 4 + k + (u + 1 - (u + 1)) = 4 + k by omega]
    exact c3 (4 + k) (by omega)
/-- a frame -/
def mstep (pw : Nat → Nat → Int32) (W : Nat) (m : AM) : AM := ((astep pw W m.2.2.1 m.2.2.2 m.1).1, (astep pw W m.2.2.1 (astep pw W m.2.2.1 m.2.2.2 m.1).2 m.2.1).1, m.2.2.1, (astep pw W m.2.2.1 (astep pw W m.2.2.1 m.2.2.2 m.1).2 m.2.1).2)
theorem mstep_ok {S W : Nat} {pw : Nat → Nat → Int32} (hF : FigOK S W pw) {m : AM} (h : MOK S W m) : MOK S W (mstep pw W m) := ⟨astep_ok hF h.1, astep_ok hF h.2⟩
def oM (m : AM) : (Nat → UInt32) × (Nat → UInt32) × (Nat → UInt32) × (Nat → UInt32) × Int32 × Int32 × Int32 × Int32 × Int32 × Int32 × Int32 × Int32 × Int32 × Int32 × Int32 := (m.1.2.2.2.1, m.1.2.2.2.2, m.2.1.2.2.2.1, m.2.1.2.2.2.2, m.2.2.2, nI m.1.1, nI m.1.2.1, bwI m.1.2.2.1, bfI m.1.2.2.1, bdI m.1.2.2.1, nI m.2.1.1, nI m.2.1.2.1, bwI m.2.1.2.2.1, bfI m.2.1.2.2.1, bdI m.2.1.2.2.1)
theorem p_mgoOn {S W : Nat} {pt : Nat → Int32} {m : AM} (hF : FigOK S W (fun w k => pt (w * 7 + k))) (h : MOK S W m) :
    f_X2_goOn m.2.2.2 (nI m.1.1) (nI m.1.2.1) (bwI m.1.2.2.1) (bfI m.1.2.2.1) (bdI m.1.2.2.1) m.1.2.2.2.1 m.1.2.2.2.2 (nI m.2.1.1) (nI m.2.1.2.1) (bwI m.2.1.2.2.1) (bfI m.2.1.2.2.1) (bdI m.2.1.2.2.1) m.2.1.2.2.2.1 m.2.1.2.2.2.2 m.2.2.1 (nI W) pt = some (oM (mstep (fun w k => pt (w * 7 + k)) W m)) := by
  unfold f_X2_goOn
  rw [p_goOn hF h.1]
  unfold oL
  simp only [Option.bind_some]
  rw [p_goOn hF h.2]
  rfl
theorem FrLR {mw mw' : Nat → Int32} {mf mf' : Nat → UInt32} {r l l' : Nat} {x : AL} (hl : l < 2) (hl' : l' < 2) (hne : l ≠ l') (h : LR x mw mf r l) (hw : FrW mw mw' r l') (hf : FrF mf mf' r l') : LR x mw' mf' r l := by
  obtain ⟨x1, x2, x3, x4, x5, x6, x7⟩ := h
  refine ⟨?_, ?_, ?_, ?_, ?_, fun s hs => ?_, fun hb s hs => ?_⟩
  · rw [hw _ (by omega) (by omega)]; exact x1
  · rw [hw _ (by omega) (by omega)]; exact x2
  · rw [hw _ (by omega) (by omega)]; exact x3
  · rw [hw _ (by omega) (by omega)]; exact x4
  · rw [hw _ (by omega) (by omega)]; exact x5
  · rw [hf _ (by omega) (by omega)]; exact x6 s hs
  · rw [hf _ (by omega) (by omega)]; exact x7 hb s hs
theorem FrSR {mw mw' : Nat → Int32} {mf mf' : Nat → UInt32} {r l q : Nat} (hl : l < 2) (hw : FrW mw mw' r l) (hf : FrF mf mf' r l) (hq : q ≠ r) : SR mw mw' mf mf' q q := ⟨fun j hj => hw _ (by omega) (by omega), fun j hj => hf _ (by omega) (by omega)⟩
theorem p6_frame {S W : Nat} {pw : Nat → Nat → Int32} {mof mw : Nat → Int32} {mf : Nat → UInt32} {r : Nat} {m : AM} (hF : FigOK S W pw) (hR : WR W pw mof) (hr : r < 12) (ho : MOK S W m) (h : MR m mw mf r) :
    ∃ mw' mf', f_X6_frame (nI W) mof mw mf (nI r) = some (mw', mf') ∧ MR (mstep pw W m) mw' mf' r ∧ ∀ q, q ≠ r → SR mw mw' mf mf' q q := by
  obtain ⟨h1, h2, h3⟩ := h
  obtain ⟨mw1, mf1, a1, a2, a3, a4, a5⟩ := p6_frames hF hR hr (show 0 < 2 by omega) h3 ho.1 h1
  have h2' := FrLR (show 1 < 2 by omega) (show 0 < 2 by omega) (by omega) h2 a4 a5
  obtain ⟨mw2, mf2, b1, b2, b3, b4, b5⟩ := p6_frames hF hR hr (show 1 < 2 by omega) a3 ho.2 h2'
  unfold f_X6_frame
  rw [show f_X6_frames (nI W) mof mw mf (nI r) 0 = f_X6_frames (nI W) mof mw mf (nI r) (nI 0) from rfl, a1]
  simp only [Option.bind_some]
  rw [show f_X6_frames (nI W) mof mw1 mf1 (nI r) 1 = f_X6_frames (nI W) mof mw1 mf1 (nI r) (nI 1) from rfl, b1]
  refine ⟨mw2, mf2, rfl, ⟨FrLR (by omega) (show 1 < 2 by omega) (by omega) a2 b4 b5, b2, b3⟩, fun q hq => (FrSR (show 0 < 2 by omega) a4 a5 hq).tr (FrSR (show 1 < 2 by omega) b4 b5 hq)⟩
