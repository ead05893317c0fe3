/-! ===== the class's layers: what a frame does, in numbers ===== -/
theorem p_part {pt : Nat → Int32} {w k : Nat} (hw : w < 12) (hk : k < 7) : f_X0_part pt (nI w) (nI k) = some (pt (w * 7 + k)) := by
  unfold f_X0_part
  simp (disch := omega) only [li, mu_nI, ad_nI, gd_iok, cl_nI]
theorem p_putPart {pt : Nat → Int32} {w k : Nat} {v : Int32} (hw : w < 12) (hk : k < 7) : f_X0_putPart pt (nI w) (nI k) v = some (upd pt (w * 7 + k) v) := by
  unfold f_X0_putPart
  simp (disch := omega) only [li, mu_nI, ad_nI, gd_iok, cl_nI]
/-- a way's condition -/
def hol (g : Nat → Int32) (la : Int32) (nm : Nat → Int32) (tr : Int32) : Bool :=
  if g 4 = 0 then decide (¬ la < g 6) else if g 4 = 1 then decide (¬ nm (g 5).toNatClampNeg ≤ g 6) else if g 4 = 2 then decide (¬ g 6 ≤ nm (g 5).toNatClampNeg) else decide (((tr >>> (g 5 &&& 31)) &&& 1) = 1)
/-- a way is taken from a state -/
def opn (g : Nat → Int32) (st la : Int32) (nm : Nat → Int32) (tr : Int32) : Bool := (decide (g 0 = st) || decide (g 0 = 9)) && (decide (¬ g 1 = st) && hol g la nm tr)
def bI (b : Bool) : Int32 := if b then 1 else 0
theorem bI_zok (b : Bool) : zok (bI b) := by cases b; exact Or.inl rfl; exact Or.inr rfl
/-- a way that is as told -/
def WayOK (S : Nat) (g : Nat → Int32) : Prop :=
  (∃ a, g 0 = nI a ∧ (a < S ∨ a = 9)) ∧ (∃ b, g 1 = nI b ∧ b < S) ∧ (∃ n, g 2 = nI n ∧ n ∈ [0, 1, 2, 4, 8, 16]) ∧ (g 3 = nI 0 ∨ g 3 = nI 1) ∧ (∃ c, g 4 = nI c ∧ c < 4) ∧ (∃ p, g 5 = nI p ∧ p < 3)
theorem p_holds {pt : Nat → Int32} {w : Nat} {la tr : Int32} {nm : Nat → Int32} (hw : w < 12) {p : Nat} (h5 : pt (w * 7 + 5) = nI p) (hp : p < 3) :
    f_X1_holds la pt tr nm (nI w) = some (bI (hol (fun k => pt (w * 7 + k)) la nm tr)) := by
  unfold f_X1_holds f_X2_isTriggered hol bI
  simp only [show (5 : Int32) = nI 5 from rfl, show (6 : Int32) = nI 6 from rfl, show (4 : Int32) = nI 4 from rfl]
  rw [p_part hw (by omega), p_part hw (by omega), p_part hw (by omega)]
  simp only [Option.bind_some, h5]
  rw [gd_iok (by omega) (by omega), gd_iok (by omega) (by omega)]
  by_cases h0 : pt (w * 7 + 4) = 0
  · simp only [h0, if_true]
    by_cases h1 : la < pt (w * 7 + 6) <;> simp [h1]
  · simp only [h0, if_false]
    by_cases h1 : pt (w * 7 + 4) = 1
    · simp only [h1, if_true]
      by_cases h2 : nm (nI p).toNatClampNeg ≤ pt (w * 7 + 6) <;> simp [h2]
    · simp only [h1, if_false]
      by_cases h2 : pt (w * 7 + 4) = 2
      · simp only [h2, if_true]
        by_cases h3 : pt (w * 7 + 6) ≤ nm (nI p).toNatClampNeg <;> simp [h3]
      · simp only [h2, if_false]
        by_cases h3 : ((tr >>> (nI p &&& 31)) &&& 1) = 1
        · simp [h3, gd]
        · simp [h3, gd]
theorem p_leadsFrom {pt : Nat → Int32} {w : Nat} {x : Int32} (hw : w < 12) : f_X0_leadsFrom pt (nI w) x = some (bI (decide (pt (w * 7 + 0) = x) || decide (pt (w * 7 + 0) = 9))) := by
  unfold f_X0_leadsFrom bI
  simp only [show (0 : Int32) = nI 0 from rfl]
  rw [p_part hw (by omega)]
  simp only [Option.bind_some]
  by_cases h1 : pt (w * 7 + 0) = x
  · rw [if_pos h1]; simp only [h1, decide_true, Bool.true_or, if_true]
  · rw [if_neg h1]
    by_cases h2 : pt (w * 7 + 0) = 9
    · rw [if_pos h2]; simp only [h1, h2, decide_true, Bool.or_true, if_true]
    · rw [if_neg h2]; simp only [h1, h2, decide_false, Bool.or_false, Bool.false_eq_true, if_false]
theorem p_isOpen {pt : Nat → Int32} {w : Nat} {st la tr : Int32} {nm : Nat → Int32} (hw : w < 12) {p : Nat} (h5 : pt (w * 7 + 5) = nI p) (hp : p < 3) :
    f_X1_isOpen st la pt tr nm (nI w) = some (bI (opn (fun k => pt (w * 7 + k)) st la nm tr)) := by
  unfold f_X1_isOpen
  rw [p_leadsFrom hw]
  simp only [Option.bind_some, show (1 : Int32) = nI 1 from rfl]
  unfold opn
  by_cases h1 : (decide (pt (w * 7 + 0) = st) || decide (pt (w * 7 + 0) = 9)) = true
  · rw [p_part hw (by omega), p_holds hw h5 hp]
    simp only [h1, Option.bind_some, Bool.true_and]
    rw [if_neg (by decide)]
    by_cases h2 : pt (w * 7 + 1) = st
    · simp [h2, bI]
    · simp only [h2, if_false, not_false_eq_true, decide_true, Bool.true_and]
      cases hol (fun k => pt (w * 7 + k)) la nm tr
      · simp [bI]
      · simp [bI]; rfl
  · have h1' : (decide (pt (w * 7 + 0) = st) || decide (pt (w * 7 + 0) = 9)) = false := by simpa using h1
    simp only [h1', Bool.false_and]
    rfl
/-- the first of the ways that holds -/
def fwB (o : Nat → Bool) : Nat → Nat → Option Nat
  | 0, _ => none
  | n + 1, w => if o w then some w else fwB o n (w + 1)
theorem fwB_lt {o : Nat → Bool} : ∀ {n w v : Nat}, fwB o n w = some v → w ≤ v ∧ v < w + n ∧ o v = true := by
  intro n
  induction n with
  | zero => intro w v h; cases h
  | succ n ih =>
    intro w v h
    unfold fwB at h
    by_cases ho : o w = true
    · rw [if_pos ho] at h; cases h; exact ⟨Nat.le_refl _, by omega, ho⟩
    · rw [if_neg ho] at h
      obtain ⟨a, b, c⟩ := ih h
      exact ⟨by omega, by omega, c⟩
theorem fwB_congr {o o' : Nat → Bool} : ∀ {n w : Nat}, (∀ v, w ≤ v → v < w + n → o v = o' v) → fwB o n w = fwB o' n w := by
  intro n
  induction n with
  | zero => intro w _; rfl
  | succ n ih =>
    intro w h
    unfold fwB
    rw [h w (Nat.le_refl _) (by omega), ih (fun v h1 h2 => h v (by omega) (by omega))]
/-- shares of a layer that is wholly in state a -/
def stl (sh : Nat → UInt32) (a : Nat) : Nat → UInt32 := fun j => if j < 6 then (if j = a then FP.fconst1 else FP.fconst0) else sh j
def bld (sb sh : Nat → UInt32) (a d n : Nat) : Nat → UInt32 := fun j => if j < 6 then (if j = a then FP.fadd (FP.fmul (sb j) (ur d n)) (uu d n) else FP.fmul (sb j) (ur d n)) else sh j
theorem p_fillF_L (nn : Nat) (hn : nn < 900) (v : UInt32) : ∀ (k n x : Nat) (ac : Nat → UInt32), k = nn - x → x ≤ nn → k < n → f_J7_fill_e525d_L5 nn v n (nI x) ac = some (nI nn, fun j => if x ≤ j ∧ j < nn then v else ac j) := by
  intro k
  induction k with
  | zero =>
    intro n x ac hk hx hn1
    obtain ⟨n, rfl⟩ : ∃ m, n = m + 1 := ⟨n - 1, by omega⟩
    have hxn : x = nn := by omega
    subst hxn
    unfold f_J7_fill_e525d_L5
    rw [if_pos (show Int32.ofNat x ≤ nI x from Int32.le_refl _)]
    congr 2
    funext j
    rw [if_neg (by omega)]
  | succ k ih =>
    intro n x ac hk hx hn1
    obtain ⟨n, rfl⟩ : ∃ m, n = m + 1 := ⟨n - 1, by omega⟩
    unfold f_J7_fill_e525d_L5
    rw [if_neg (show ¬ (Int32.ofNat nn ≤ nI x) by show ¬ (nI nn ≤ nI x); rw [le_nI (by omega) (by omega)]; omega), gd_iok (by omega) (by omega)]
    have := ih n (x + 1) (vf_upd ac x v) (by omega) (by omega) (by omega)
    rw [show nI x + 1 = nI (x + 1) from nI_1 x, cl_nI (by omega), this]
    congr 2
    funext j
    by_cases h1 : j = x
    · subst h1; rw [if_neg (by omega), vfu_s, if_pos (by omega)]
    · by_cases h2 : x ≤ j ∧ j < nn
      · rw [if_pos (by omega), if_pos h2]
      · rw [if_neg (by omega), if_neg h2, vfu_n h1]
theorem p_fillF {nn : Nat} (hn : nn < 900) (v : UInt32) (ac : Nat → UInt32) : f_J7_fill_e525d ac nn v = some (fun j => if j < nn then v else ac j) := by
  unfold f_J7_fill_e525d
  rw [show (0 : Int32) = nI 0 from rfl, p_fillF_L nn hn v nn 1000 0 ac (by omega) (by omega) (by omega)]
  simp
theorem p_fillI_L (nn : Nat) (hn : nn < 900) (v : Int32) : ∀ (k n x : Nat) (ac : Nat → Int32), k = nn - x → x ≤ nn → k < n → f_J7_fill_53178_L5 nn v n (nI x) ac = some (nI nn, fun j => if x ≤ j ∧ j < nn then v else ac j) := by
  intro k
  induction k with
  | zero =>
    intro n x ac hk hx hn1
    obtain ⟨n, rfl⟩ : ∃ m, n = m + 1 := ⟨n - 1, by omega⟩
    have hxn : x = nn := by omega
    subst hxn
    unfold f_J7_fill_53178_L5
    rw [if_pos (show Int32.ofNat x ≤ nI x from Int32.le_refl _)]
    congr 2
    funext j
    rw [if_neg (by omega)]
  | succ k ih =>
    intro n x ac hk hx hn1
    obtain ⟨n, rfl⟩ : ∃ m, n = m + 1 := ⟨n - 1, by omega⟩
    unfold f_J7_fill_53178_L5
    rw [if_neg (show ¬ (Int32.ofNat nn ≤ nI x) by show ¬ (nI nn ≤ nI x); rw [le_nI (by omega) (by omega)]; omega), gd_iok (by omega) (by omega)]
    have := ih n (x + 1) (upd ac x v) (by omega) (by omega) (by omega)
    rw [show nI x + 1 = nI (x + 1) from nI_1 x, cl_nI (by omega), this]
    congr 2
    funext j
    by_cases h1 : j = x
    · subst h1; rw [if_neg (by omega), upd_s, if_pos (by omega)]
    · by_cases h2 : x ≤ j ∧ j < nn
      · rw [if_pos (by omega), if_pos h2]
      · rw [if_neg (by omega), if_neg h2, upd_n h1]
theorem p_fillI {nn : Nat} (hn : nn < 900) (v : Int32) (ac : Nat → Int32) : f_J7_fill_53178 ac nn v = some (fun j => if j < nn then v else ac j) := by
  unfold f_J7_fill_53178
  rw [show (0 : Int32) = nI 0 from rfl, p_fillI_L nn hn v nn 1000 0 ac (by omega) (by omega) (by omega)]
  simp
theorem p_settle {a : Nat} (ha : a < 6) (sh : Nat → UInt32) : f_X1_settle (nI a) sh = some (stl sh a, -1, 0, 0) := by
  unfold f_X1_settle
  rw [p_fillF (by omega)]
  simp only [Option.bind_some]
  rw [gd_iok ha (by omega), cl_nI (by omega)]
  congr 2
  funext j
  unfold stl
  by_cases h1 : j = a
  · subst h1; rw [vfu_s, if_pos ha, if_pos rfl]
  · rw [vfu_n h1]
    by_cases h2 : j < 6
    · rw [if_pos h2, if_pos h2, if_neg h1]
    · rw [if_neg h2, if_neg h2]
def cp6 (sh sb : Nat → UInt32) : Nat → UInt32 := va_cpy sh sb 0 0 6
theorem cp6_lt {sh sb : Nat → UInt32} {j : Nat} (h : j < 6) : cp6 sh sb j = sh j := by
  unfold cp6
  rw [pk_cpy_in (Nat.zero_le _) (by omega)]
  simp
/-- a layer in numbers: its state, how long, its blend (way, frames, done), shares, shares at the begin -/
abbrev AL : Type := Nat × Nat × Option (Nat × Nat × Nat) × (Nat → UInt32) × (Nat → UInt32)
def bwI (b : Option (Nat × Nat × Nat)) : Int32 := match b with | none => -1 | some (w, _, _) => nI w
def bfI (b : Option (Nat × Nat × Nat)) : Int32 := match b with | none => 0 | some (_, n, _) => nI n
def bdI (b : Option (Nat × Nat × Nat)) : Int32 := match b with | none => 0 | some (_, _, d) => nI d
def atake (x : AL) (w to n : Nat) : AL := if n = 0 then (to, 0, none, stl x.2.2.2.1 to, x.2.2.2.2) else (to, 0, some (w, n, 0), x.2.2.2.1, cp6 x.2.2.2.1 x.2.2.2.2)
def atick (x : AL) : AL := match x.2.2.1 with
  | none => (x.1, min (x.2.1 + 1) 9999, none, x.2.2.2.1, x.2.2.2.2)
  | some (w, n, d) => if d + 1 < n then (x.1, min (x.2.1 + 1) 9999, some (w, n, d + 1), bld x.2.2.2.2 x.2.2.2.1 x.1 (d + 1) n, x.2.2.2.2) else (x.1, min (x.2.1 + 1) 9999, none, stl x.2.2.2.1 x.1, x.2.2.2.2)
def afree (pw : Nat → Nat → Int32) (b : Option (Nat × Nat × Nat)) : Bool := match b with | none => true | some (w, _, _) => decide (pw w 3 = 1)
def ago (pw : Nat → Nat → Int32) (W : Nat) (nm : Nat → Int32) (tr : Int32) (x : AL) : Option Nat := if afree pw x.2.2.1 then fwB (fun w => opn (pw w) (nI x.1) (nI x.2.1) nm tr) W 0 else none
def atr (pw : Nat → Nat → Int32) (tr : Int32) (w : Nat) : Int32 := if pw w 4 = 3 then tr &&& (((1 : Int32) <<< (pw w 5 &&& 31)) ^^^ (-1)) else tr
def astep (pw : Nat → Nat → Int32) (W : Nat) (nm : Nat → Int32) (tr : Int32) (x : AL) : AL × Int32 := match ago pw W nm tr x with
  | none => (atick x, tr)
  | some w => (atick (atake x w (pw w 1).toNatClampNeg (pw w 2).toNatClampNeg), atr pw tr w)
/-- a layer is as it may be: S states, W ways -/
def BlOK (S W : Nat) (b : Option (Nat × Nat × Nat)) (sb : Nat → UInt32) : Prop := match b with
  | none => True
  | some (w, n, d) => w < W ∧ n ∈ [1, 2, 4, 8, 16] ∧ d < n ∧ (∀ s, s < 6 → Sh (sb s)) ∧ ∀ s, s < 6 → max S 1 ≤ s → sb s = FP.fconst0
def ALOK (S W : Nat) (x : AL) : Prop :=
  x.1 < max S 1 ∧ x.2.1 ≤ 9999 ∧ BlOK S W x.2.2.1 x.2.2.2.2 ∧ (∀ s, s < 6 → Sh (x.2.2.2.1 s)) ∧ ∀ s, s < 6 → max S 1 ≤ s → x.2.2.2.1 s = FP.fconst0
def FigOK (S W : Nat) (pw : Nat → Nat → Int32) : Prop := S ≤ 6 ∧ W ≤ 12 ∧ ∀ w, w < W → WayOK S (pw w)
theorem Sh_one : Sh FP.fconst1 := by unfold Sh; decide
theorem Sh_zero : Sh FP.fconst0 := by unfold Sh; decide
theorem stl_ok {S a : Nat} {sh : Nat → UInt32} (ha : a < max S 1) : (∀ s, s < 6 → Sh (stl sh a s)) ∧ ∀ s, s < 6 → max S 1 ≤ s → stl sh a s = FP.fconst0 := by
  constructor
  · intro s hs
    unfold stl
    rw [if_pos hs]
    split
    · exact Sh_one
    · exact Sh_zero
  · intro s hs h
    unfold stl
    rw [if_pos hs, if_neg (by omega)]
theorem p_begin {w to n : Nat} (ht : to < 6) (hn : n < 100) (sh sb : Nat → UInt32) : f_X1_begin sh sb (nI w) (nI to) (nI n) = some ((if n = 0 then stl sh to else sh), (if n = 0 then sb else cp6 sh sb), nI to, nI 0, bwI (if n = 0 then none else some (w, n, 0)), bfI (if n = 0 then none else some (w, n, 0)), bdI (if n = 0 then none else some (w, n, 0))) := by
  unfold f_X1_begin
  by_cases h0 : n = 0
  · subst h0
    rw [if_pos (show nI 0 = 0 from rfl), p_settle ht]
    simp only [Option.bind_some, if_true]
    rfl
  · rw [if_neg (show ¬ nI n = 0 by show ¬ nI n = nI 0; rw [eq_nI (by omega) (by omega)]; exact h0)]
    simp only [if_neg h0]
    rfl
/-- the way that a search finds is taken -/
theorem p_take_L {S W : Nat} {pt nm : Nat → Int32} {x : AL} {tr : Int32} (hF : FigOK S W (fun w k => pt (w * 7 + k))) :
    ∀ (k n w : Nat), k = W - w → w ≤ W → k < n →
      f_X1_takeFirstWay_L2 (nI W) x.2.2.2.1 x.2.2.2.2 (nI x.1) (nI x.2.1) (bwI x.2.2.1) (bfI x.2.2.1) (bdI x.2.2.1) tr pt nm n (nI w) =
        match fwB (fun v => opn (fun q => pt (v * 7 + q)) (nI x.1) (nI x.2.1) nm tr) k w with
        | none => some (x.2.2.2.1, x.2.2.2.2, nI x.1, nI x.2.1, bwI x.2.2.1, bfI x.2.2.1, bdI x.2.2.1, tr)
        | some v => some ((atake x v (pt (v * 7 + 1)).toNatClampNeg (pt (v * 7 + 2)).toNatClampNeg).2.2.2.1, (atake x v (pt (v * 7 + 1)).toNatClampNeg (pt (v * 7 + 2)).toNatClampNeg).2.2.2.2, nI (atake x v (pt (v * 7 + 1)).toNatClampNeg (pt (v * 7 + 2)).toNatClampNeg).1, nI (atake x v (pt (v * 7 + 1)).toNatClampNeg (pt (v * 7 + 2)).toNatClampNeg).2.1, bwI (atake x v (pt (v * 7 + 1)).toNatClampNeg (pt (v * 7 + 2)).toNatClampNeg).2.2.1, bfI (atake x v (pt (v * 7 + 1)).toNatClampNeg (pt (v * 7 + 2)).toNatClampNeg).2.2.1, bdI (atake x v (pt (v * 7 + 1)).toNatClampNeg (pt (v * 7 + 2)).toNatClampNeg).2.2.1, atr (fun w k => pt (w * 7 + k)) tr v) := by
  obtain ⟨hS6, hW12, hways⟩ := hF
  intro k
  induction k with
  | zero =>
    intro n w hk hw hn
    obtain ⟨n, rfl⟩ : ∃ m, n = m + 1 := ⟨n - 1, by omega⟩
    have : w = W := by omega
    subst this
    unfold f_X1_takeFirstWay_L2
    rw [if_pos (Int32.le_refl _)]
    rfl
  | succ k ih =>
    intro n w hk hw hn
    obtain ⟨n, rfl⟩ : ∃ m, n = m + 1 := ⟨n - 1, by omega⟩
    obtain ⟨-, ⟨b, hb, hbS⟩, ⟨nf, hnf, hnl⟩, -, ⟨cd, hcd, hc4⟩, ⟨p, hp, hp3⟩⟩ := hways w (by omega)
    simp only at hb hnf hcd hp
    have hn16 : nf < 100 := by
      simp only [List.mem_cons, List.not_mem_nil, or_false] at hnl
      omega
    unfold f_X1_takeFirstWay_L2
    rw [if_neg (show ¬ nI W ≤ nI w by rw [le_nI (by omega) (by omega)]; omega), p_isOpen (show w < 12 by omega) hp hp3]
    simp only [Option.bind_some]
    unfold fwB
    cases ho : opn (fun q => pt (w * 7 + q)) (nI x.1) (nI x.2.1) nm tr with
    | false =>
      rw [if_pos (show bI false = 0 from rfl), show nI w + 1 = nI (w + 1) from nI_1 w, ih n (w + 1) (by omega) (by omega) (by omega)]
      simp only [Bool.false_eq_true, if_false]
    | true =>
      rw [if_neg (show ¬ bI true = 0 by decide)]
      simp only [if_true]
      simp only [show (4 : Int32) = nI 4 from rfl, show (5 : Int32) = nI 5 from rfl, show (1 : Int32) = nI 1 from rfl, show (2 : Int32) = nI 2 from rfl]
      rw [p_part (show w < 12 by omega) (by omega), p_part (show w < 12 by omega) (by omega), p_part (show w < 12 by omega) (by omega), p_part (show w < 12 by omega) (by omega)]
      simp only [Option.bind_some, hb, hnf, hp]
      rw [p_begin (show b < 6 by omega) hn16]
      unfold f_X2_release atr
      simp only [Option.bind_some]
      rw [cl_nI (show b < 2147483648 by omega), cl_nI (show nf < 2147483648 by omega)]
      unfold atake
      by_cases h3 : pt (w * 7 + 4) = 3
      · rw [if_pos h3, if_pos h3]
        by_cases h0 : nf = 0
        · simp only [h0, if_true, hp]
        · simp only [if_neg h0, hp]
      · rw [if_neg h3, if_neg h3]
        by_cases h0 : nf = 0
        · simp only [h0, if_true]
        · simp only [if_neg h0]
theorem p_blend_L {d n a : Nat} {sb : Nat → UInt32} (hn : n ∈ [1, 2, 4, 8, 16]) (hd : d + 1 < n + 1) (ha : a < 6) (hsb : ∀ s, s < 6 → Sh (sb s)) :
    ∀ (k m x : Nat) (sh : Nat → UInt32), k = 6 - x → x ≤ 6 → k < m → f_X1_blend_L40 (nI d) (nI n) sb (nI a) m (nI x) sh = some (nI 6, fun j => if x ≤ j ∧ j < 6 then (if j = a then FP.fadd (FP.fmul (sb j) (ur (d + 1) n)) (uu (d + 1) n) else FP.fmul (sb j) (ur (d + 1) n)) else sh j) := by
  intro k
  induction k with
  | zero =>
    intro m x sh hk hx hm
    obtain ⟨m, rfl⟩ : ∃ q, m = q + 1 := ⟨m - 1, by omega⟩
    have : x = 6 := by omega
    subst this
    unfold f_X1_blend_L40
    rw [if_pos (show (6 : Int32) ≤ nI 6 from Int32.le_refl _)]
    congr 2
    funext j
    rw [if_neg (by omega)]
  | succ k ih =>
    intro m x sh hk hx hm
    obtain ⟨m, rfl⟩ : ∃ q, m = q + 1 := ⟨m - 1, by omega⟩
    obtain ⟨u1, u2, u3, u4, u5, u6⟩ := Sh_blend (hsb x (by omega)) hn hd (by omega)
    unfold f_X1_blend_L40
    rw [if_neg (show ¬ (6 : Int32) ≤ nI x by show ¬ nI 6 ≤ nI x; rw [le_nI (by omega) (by omega)]; omega)]
    rw [show nI d + 1 = nI (d + 1) from nI_1 d]
    simp only [show FP.fdiv (FP.i2f (nI (d + 1))) (FP.i2f (nI n)) = uu (d + 1) n from rfl, show FP.fsub FP.fconst1 (uu (d + 1) n) = ur (d + 1) n from rfl]
    simp (disch := omega) only [cl_nI, gd_iok]
    rw [gd_t u2, gd_t u3, gd_t u5]
    rw [show nI x + 1 = nI (x + 1) from nI_1 x]
    by_cases hxa : x = a
    · rw [if_pos (by rw [hxa]), ih m (x + 1) _ (by omega) (by omega) (by omega)]
      congr 2
      funext j
      by_cases h1 : j = x
      · subst h1; rw [if_neg (by omega), vfu_s, if_pos (by omega), if_pos hxa]
      · by_cases h2 : x ≤ j ∧ j < 6
        · rw [if_pos (by omega), if_pos h2]
        · rw [if_neg (by omega), if_neg h2, vfu_n h1]
    · rw [if_neg (by rw [eq_nI (by omega) (by omega)]; exact hxa), ih m (x + 1) _ (by omega) (by omega) (by omega)]
      congr 2
      funext j
      by_cases h1 : j = x
      · subst h1; rw [if_neg (by omega), vfu_s, if_pos (by omega), if_neg hxa]
      · by_cases h2 : x ≤ j ∧ j < 6
        · rw [if_pos (by omega), if_pos h2]
        · rw [if_neg (by omega), if_neg h2, vfu_n h1]
theorem p_blend {a w d n : Nat} {sh sb : Nat → UInt32} (hn : n ∈ [1, 2, 4, 8, 16]) (hd : d < n) (ha : a < 6) (hsb : ∀ s, s < 6 → Sh (sb s)) :
    f_X1_blend (nI a) (nI w) (nI n) (nI d) sh sb = some ((if d + 1 < n then bld sb sh a (d + 1) n else stl sh a), bwI (if d + 1 < n then some (w, n, d + 1) else none), bfI (if d + 1 < n then some (w, n, d + 1) else none), bdI (if d + 1 < n then some (w, n, d + 1) else none)) := by
  have hn16 : n < 100 := by
    simp only [List.mem_cons, List.not_mem_nil, or_false] at hn
    omega
  unfold f_X1_blend
  rw [show nI d + 1 = nI (d + 1) from nI_1 d]
  by_cases h : d + 1 < n
  · obtain ⟨u1, -⟩ := Sh_blend (hsb 0 (by omega)) hn (show d + 1 < n + 1 by omega) (by omega)
    rw [if_pos (by rw [lt_nI (by omega) (by omega)]; exact h)]
    simp only [if_pos h]
    rw [show FP.fdiv (FP.i2f (nI (d + 1))) (FP.i2f (nI n)) = uu (d + 1) n from rfl, gd_t u1, show (0 : Int32) = nI 0 from rfl, p_blend_L hn (by omega) ha hsb 6 1000 0 sh (by omega) (by omega) (by omega)]
    simp only [Option.bind_some]
    congr 2
    funext j
    unfold bld
    by_cases hj : j < 6
    · rw [if_pos ⟨by omega, hj⟩, if_pos hj]
    · rw [if_neg (by omega), if_neg hj]
  · rw [if_neg (by rw [lt_nI (by omega) (by omega)]; exact h), p_settle ha]
    simp only [Option.bind_some, if_neg h]
    rfl
theorem p_isSteady (b : Option (Nat × Nat × Nat)) (hb : ∀ w n d, b = some (w, n, d) → w < 100) : f_X1_isSteady (bwI b) = some (if b = none then 1 else 0) := by
  unfold f_X1_isSteady
  cases b with
  | none => rfl
  | some q =>
    obtain ⟨w, n, d⟩ := q
    rw [if_neg (show ¬ bwI (some (w, n, d)) = -1 from m1_ne w (by have := hb w n d rfl; omega))]
    simp
theorem lastI {t : Nat} (h : t ≤ 9999) : (if 9999 < nI t + 1 then (9999 : Int32) else nI t + 1) = nI (min (t + 1) 9999) := by
  rw [show nI t + 1 = nI (t + 1) from nI_1 t]
  by_cases h1 : 9999 < t + 1
  · rw [if_pos (show (9999 : Int32) < nI (t + 1) by show nI 9999 < nI (t + 1); rw [lt_nI (by omega) (by omega)]; exact h1), show min (t + 1) 9999 = 9999 by omega]
    rfl
  · rw [if_neg (show ¬ (9999 : Int32) < nI (t + 1) by show ¬ nI 9999 < nI (t + 1); rw [lt_nI (by omega) (by omega)]; exact h1), show min (t + 1) 9999 = t + 1 by omega]
def oL (y : AL) (t : Int32) : (Nat → UInt32) × (Nat → UInt32) × Int32 × Int32 × Int32 × Int32 × Int32 × Int32 := (y.2.2.2.1, y.2.2.2.2, nI y.1, nI y.2.1, bwI y.2.2.1, bfI y.2.2.1, bdI y.2.2.1, t)
theorem ALOK.w100 {S W : Nat} (hW : W ≤ 12) {x : AL} (h : ALOK S W x) : ∀ w n d, x.2.2.1 = some (w, n, d) → w < 100 := by
  intro w n d e
  obtain ⟨-, -, hb, -, -⟩ := h
  rw [e] at hb
  have := hb.1
  omega
theorem p_tick {S W : Nat} (hS : S ≤ 6) (hW : W ≤ 12) {y : AL} (h : ALOK S W y) (t : Int32) :
    ((f_X1_isSteady (bwI y.2.2.1)).bind fun r13 => (if r13 = 0 then ((f_X1_blend (nI y.1) (bwI y.2.2.1) (bfI y.2.2.1) (bdI y.2.2.1) y.2.2.2.1 y.2.2.2.2).bind fun (o16, o17, o18, o19) => (some (o16, y.2.2.2.2, nI y.1, (if 9999 < (nI y.2.1 + 1) then 9999 else (nI y.2.1 + 1)), o17, o18, o19, t))) else (some (y.2.2.2.1, y.2.2.2.2, nI y.1, (if 9999 < (nI y.2.1 + 1) then 9999 else (nI y.2.1 + 1)), bwI y.2.2.1, bfI y.2.2.1, bdI y.2.2.1, t)))) = some (oL (atick y) t) := by
  rw [p_isSteady _ (h.w100 hW), lastI h.2.1]
  obtain ⟨a, tt, b, sh, sb⟩ := y
  obtain ⟨h1, h2, h3, h4, h5⟩ := h
  simp only at h1 h2 h3 h4 h5 ⊢
  cases b with
  | none =>
    simp only [Option.bind_some, if_true]
    rw [if_neg (by decide)]
    rfl
  | some q =>
    obtain ⟨w, n, d⟩ := q
    obtain ⟨g1, g2, g3, g4, g5⟩ := h3
    simp only [Option.bind_some, reduceCtorEq, if_false, if_true]
    have := p_blend (a := a) (w := w) (d := d) (n := n) (sh := sh) (sb := sb) g2 g3 (by omega) g4
    show (Option.bind (f_X1_blend (nI a) (nI w) (nI n) (nI d) sh sb) _) = _
    rw [this]
    simp only [Option.bind_some]
    unfold atick oL
    simp only
    by_cases hd : d + 1 < n
    · simp only [if_pos hd]
    · simp only [if_neg hd]
theorem atick_ok {S W : Nat} (hS : S ≤ 6) {y : AL} (h : ALOK S W y) : ALOK S W (atick y) := by
  obtain ⟨a, tt, b, sh, sb⟩ := y
  obtain ⟨h1, h2, h3, h4, h5⟩ := h
  simp only at h1 h2 h3 h4 h5
  unfold atick
  cases b with
  | none => exact ⟨h1, by simp only; omega, trivial, h4, h5⟩
  | some q =>
    obtain ⟨w, n, d⟩ := q
    obtain ⟨g1, g2, g3, g4, g5⟩ := h3
    simp only
    by_cases hd : d + 1 < n
    · rw [if_pos hd]
      refine ⟨h1, by simp only; omega, ⟨g1, g2, hd, g4, g5⟩, fun s hs => ?_, fun s hs hm => ?_⟩
      · obtain ⟨u1, u2, u3, u4, u5, u6⟩ := Sh_blend (g4 s hs) g2 (show d + 1 < n + 1 by omega) (by omega)
        show Sh (bld sb sh a (d + 1) n s)
        unfold bld
        rw [if_pos hs]
        split
        · exact u6
        · exact u4
      · show bld sb sh a (d + 1) n s = FP.fconst0
        unfold bld
        obtain ⟨a1, a2, a3, a4, a5⟩ := u_tab n g2 (d + 1) (by omega) (by omega)
        rw [if_pos hs, if_neg (by omega), g5 s hs hm]
        exact fmul_z a4
    · rw [if_neg hd]
      exact ⟨h1, by simp only; omega, trivial, (stl_ok h1).1, (stl_ok h1).2⟩
theorem atake_ok {S W : Nat} {x : AL} (h : ALOK S W x) {w b n : Nat} (hw : w < W) (hb : b < S) (hn : n ∈ [0, 1, 2, 4, 8, 16]) : ALOK S W (atake x w b n) := by
  obtain ⟨h1, h2, h3, h4, h5⟩ := h
  unfold atake
  have hbm : b < max S 1 := by omega
  by_cases h0 : n = 0
  · rw [if_pos h0]
    exact ⟨hbm, by simp only; omega, trivial, (stl_ok hbm).1, (stl_ok hbm).2⟩
  · rw [if_neg h0]
    refine ⟨hbm, by simp only; omega, ⟨hw, ?_, by omega, fun s hs => ?_, fun s hs hm => ?_⟩, h4, h5⟩
    · simp only [List.mem_cons, List.not_mem_nil, or_false] at hn ⊢
      omega
    · show Sh (cp6 _ _ s)
      rw [cp6_lt hs]; exact h4 s hs
    · show cp6 _ _ s = _
      rw [cp6_lt hs]; exact h5 s hs hm
theorem ago_lt {pw : Nat → Nat → Int32} {W : Nat} {nm : Nat → Int32} {tr : Int32} {x : AL} {w : Nat} (h : ago pw W nm tr x = some w) : w < W := by
  unfold ago at h
  split at h
  · have := (fwB_lt h).2.1; omega
  · cases h
theorem astep_ok {S W : Nat} {pw : Nat → Nat → Int32} (hF : FigOK S W pw) {nm : Nat → Int32} {tr : Int32} {x : AL} (h : ALOK S W x) : ALOK S W (astep pw W nm tr x).1 := by
  unfold astep
  split
  · exact atick_ok hF.1 h
  · rename_i w hw
    obtain ⟨-, ⟨b, hb, hbS⟩, ⟨n, hn, hnl⟩, -⟩ := hF.2.2 w (ago_lt hw)
    have hn16 : n < 100 := by
      simp only [List.mem_cons, List.not_mem_nil, or_false] at hnl
      omega
    have hS := hF.1
    rw [hb, hn, cl_nI (by omega), cl_nI (by omega)]
    exact atick_ok hF.1 (atake_ok h (ago_lt hw) hbS hnl)
/-- a frame of a layer of the class -/
theorem p_goOn {S W : Nat} {pt nm : Nat → Int32} {tr : Int32} {x : AL} (hF : FigOK S W (fun w k => pt (w * 7 + k))) (h : ALOK S W x) :
    f_X1_goOn (nI x.1) (nI x.2.1) (bwI x.2.2.1) (bfI x.2.2.1) (bdI x.2.2.1) x.2.2.2.1 x.2.2.2.2 (nI W) pt tr nm = some (oL (astep (fun w k => pt (w * 7 + k)) W nm tr x).1 (astep (fun w k => pt (w * 7 + k)) W nm tr x).2) := by
  have hS := hF.1
  have hW := hF.2.1
  have htake : f_X1_takeFirstWay (nI x.1) (nI x.2.1) (bwI x.2.2.1) (bfI x.2.2.1) (bdI x.2.2.1) x.2.2.2.1 x.2.2.2.2 (nI W) pt tr nm = match fwB (fun v => opn (fun q => pt (v * 7 + q)) (nI x.1) (nI x.2.1) nm tr) W 0 with
        | none => some (oL x tr)
        | some v => some (oL (atake x v (pt (v * 7 + 1)).toNatClampNeg (pt (v * 7 + 2)).toNatClampNeg) (atr (fun w k => pt (w * 7 + k)) tr v)) := by
    unfold f_X1_takeFirstWay
    rw [show (0 : Int32) = nI 0 from rfl, p_take_L hF W 1000 0 (by omega) (by omega) (by omega)]
    rfl
  have hfree : ∀ w, fwB (fun v => opn (fun q => pt (v * 7 + q)) (nI x.1) (nI x.2.1) nm tr) W 0 = some w → ALOK S W (atake x w (pt (w * 7 + 1)).toNatClampNeg (pt (w * 7 + 2)).toNatClampNeg) := by
    intro w hw
    have hlt : w < W := by have := (fwB_lt hw).2.1; omega
    obtain ⟨-, ⟨b, hb, hbS⟩, ⟨n, hn, hnl⟩, -⟩ := hF.2.2 w hlt
    simp only at hb hn
    have hn16 : n < 100 := by
      simp only [List.mem_cons, List.not_mem_nil, or_false] at hnl
      omega
    rw [hb, hn, cl_nI (by omega), cl_nI (by omega)]
    exact atake_ok h hlt hbS hnl
  unfold f_X1_goOn
  rw [p_isSteady _ (h.w100 hW)]
  cases hb : x.2.2.1 with
  | none =>
    simp only [Option.bind_some, if_true]
    rw [if_neg (show ¬ (1 : Int32) = 0 by decide)]
    rw [hb] at htake
    rw [htake]
    unfold astep ago afree
    rw [hb]
    simp only [if_true]
    cases hq : fwB (fun v => opn (fun q => pt (v * 7 + q)) (nI x.1) (nI x.2.1) nm tr) W 0 with
    | none =>
      simp only [Option.bind_some]
      have := p_tick hS hW h tr
      rw [hb] at this
      unfold oL
      rw [hb]
      exact this
    | some w =>
      simp only [Option.bind_some]
      exact p_tick hS hW (hfree w hq) _
  | some q =>
    obtain ⟨w, n, d⟩ := q
    have hwW : w < W := by
      obtain ⟨-, -, h3, -, -⟩ := h
      rw [hb] at h3
      exact h3.1
    simp only [Option.bind_some, reduceCtorEq, if_false, if_true]
    rw [show bwI (some (w, n, d)) = nI w from rfl, show (3 : Int32) = nI 3 from rfl, p_part (show w < 12 by omega) (by omega)]
    simp only [Option.bind_some]
    by_cases hbr : pt (w * 7 + 3) = 1
    · rw [if_pos hbr]
      rw [hb] at htake
      rw [show bwI (some (w, n, d)) = nI w from rfl] at htake
      rw [htake]
      unfold astep ago afree
      rw [hb]
      simp only [hbr, decide_true, if_true]
      cases hq : fwB (fun v => opn (fun q => pt (v * 7 + q)) (nI x.1) (nI x.2.1) nm tr) W 0 with
      | none =>
        simp only [Option.bind_some]
        have := p_tick hS hW h tr
        rw [hb] at this
        unfold oL
        rw [hb]
        exact this
      | some v =>
        simp only [Option.bind_some]
        exact p_tick hS hW (hfree v hq) _
    · rw [if_neg hbr]
      unfold astep ago afree
      rw [hb]
      simp only [hbr, decide_false, Bool.false_eq_true, if_false]
      have := p_tick hS hW h tr
      rw [hb, p_isSteady (some (w, n, d)) (by intro w' n' d' e; cases e; omega)] at this
      simp only [Option.bind_some, reduceCtorEq, if_false, if_true] at this
      exact this
