/-! ===== words: the class compares texts, the reference a row of letters ===== -/
def kch (wi i : Nat) : Int32 := (kx_byt.getD wi []).getD i 0
def kln (wi : Nat) : Nat := kx_len.getD wi 0
theorem k_len : ∀ wi, wi < 9 → f_J0_length_8abf5 wi = some (nI (kln wi)) ∧ 1 ≤ kln wi ∧ kln wi ≤ 8 := by decide +kernel
theorem k_chr : ∀ wi, wi < 9 → ∀ i, i < kln wi → f_J0_charAt_5068e wi (nI i) = some (kch wi i) := by decide +kernel
def mt (tx : Nat → Int32) (a wi : Nat) : Nat → Nat → Bool
  | 0, _ => true
  | k + 1, x => decide (tx (a + x) = kch wi x) && mt tx a wi k (x + 1)
def wd (tx : Nat → Int32) (a b wi : Nat) : Bool := decide (b - a = kln wi) && mt tx a wi (kln wi) 0
theorem q_isWord_L {lt : Nat → Int32} {a wi : Nat} (hw : wi < 9) (ha : a + kln wi ≤ 200) : ∀ (k m x : Nat), k = kln wi - x → x ≤ kln wi → k < m → f_X4_isWord_L20 wi (nI a) lt m (nI x) = some (bI (mt lt a wi k x)) := by
  have hl := (k_len wi hw).2.2
  intro k
  induction k with
  | zero =>
    intro m x hk hx hm
    obtain ⟨m, rfl⟩ : ∃ q, m = q + 1 := ⟨m - 1, by omega⟩
    have : x = kln wi := by omega
    subst this
    unfold f_X4_isWord_L20
    rw [(k_len wi hw).1]
    simp only [Option.bind_some]
    rw [if_pos (Int32.le_refl _)]
    rfl
  | succ k ih =>
    intro m x hk hx hm
    obtain ⟨m, rfl⟩ : ∃ q, m = q + 1 := ⟨m - 1, by omega⟩
    unfold f_X4_isWord_L20 mt
    rw [(k_len wi hw).1, k_chr wi hw x (by omega)]
    simp only [Option.bind_some]
    rw [if_neg (show ¬ nI (kln wi) ≤ nI x by rw [le_nI (by omega) (by omega)]; omega), ad_nI, gd_iok (by omega) (by omega), cl_nI (by omega), ad1]
    by_cases h : lt (a + x) = kch wi x
    · rw [if_pos h, ih m (x + 1) (by omega) (by omega) (by omega)]
      simp [h]
    · rw [if_neg h]
      simp [h, bI]
theorem q_isWord {lt : Nat → Int32} {a b wi : Nat} (hw : wi < 9) (hab : a ≤ b) (hb : b ≤ 200) : f_X4_isWord (nI a) (nI b) lt wi = some (bI (wd lt a b wi)) := by
  have hl := (k_len wi hw).2.2
  unfold f_X4_isWord wd
  rw [(k_len wi hw).1]
  simp only [Option.bind_some]
  simp (disch := omega) only [sb_nI hab, eq_nI]
  by_cases h : b - a = kln wi
  · rw [if_pos h, show (0 : Int32) = nI 0 from rfl, q_isWord_L hw (by omega) (kln wi) 1000 0 (by omega) (by omega) (by omega)]
    simp [h]
  · rw [if_neg h]
    simp [h, bI]
/-- the reference's row of words -/
def wtab : List Int32 := [102, 105, 103, 117, 114, 101, 32, 115, 116, 97, 116, 101, 32, 119, 97, 121, 32, 98, 114, 101, 97, 107, 105, 110, 103, 32, 109, 97, 115, 107, 32, 97, 102, 116, 101, 114, 32, 111, 118, 101, 114, 32, 117, 110, 100, 101, 114, 32, 116, 114, 105, 103, 103, 101, 114, 32]
def wpm (w : Nat) : Nat := [0, 1, 2, 7, 8, 3, 4, 5, 6].getD w 0
def wof (w : Nat) : Nat := [0, 7, 13, 17, 26, 31, 37, 42, 48, 56].getD w 0
def WTab (mwd : Nat → Int32) : Prop := ∀ j, j < 56 → mwd j = wtab.getD j 0
theorem w_tab : ∀ w, w < 9 → wpm w < 9 ∧ wof w + kln (wpm w) < 56 ∧ wof (w + 1) = wof w + (kln (wpm w) + 1) ∧ wtab.getD (wof w + kln (wpm w)) 0 = 32 ∧ ∀ i, i < kln (wpm w) → wtab.getD (wof w + i) 0 = kch (wpm w) i ∧ ¬ wtab.getD (wof w + i) 0 = 32 := by decide +kernel
def mr (tx : Nat → Int32) (a b wi : Nat) : Nat → Nat → Bool → Bool
  | 0, _, f => f
  | k + 1, x, f => mr tx a b wi k (x + 1) (f && (decide (a + x < b) && decide (tx (a + x) = kch wi x)))
theorem mr_false (tx : Nat → Int32) (a b wi : Nat) : ∀ (k x : Nat), mr tx a b wi k x false = false := by
  intro k
  induction k with
  | zero => intro x; rfl
  | succ k ih => intro x; unfold mr; simp [ih]
theorem mr_mt (tx : Nat → Int32) (a b wi : Nat) (h : b - a = kln wi) : ∀ (k x : Nat), x + k = kln wi → mr tx a b wi k x true = mt tx a wi k x := by
  intro k
  induction k with
  | zero => intro x _; rfl
  | succ k ih =>
    intro x hx
    unfold mr mt
    have : decide (a + x < b) = true := decide_eq_true (by omega)
    rw [this]
    by_cases hc : tx (a + x) = kch wi x
    · simp [hc, ih (x + 1) (by omega)]
    · simp [hc, mr_false]
theorem q6_word_L37 {mwd mtx : Nat → Int32} {a b w : Nat} (hT : WTab mwd) (hw : w < 9) (hab : a ≤ b) (hb : b ≤ 200) (ww oo fd : Int32) (ho : oo = nI (wof w)) : ∀ (k m x : Nat) (f : Bool), k = kln (wpm w) - x → x ≤ kln (wpm w) → k < m → f_X6_wordHere_L37 mwd (nI b) (nI a) mtx m (nI x) (bI f) ww oo fd = some (bI (mr mtx a b (wpm w) k x f), nI (kln (wpm w)), ww, oo, fd) := by
  subst ho
  obtain ⟨t1, t2, t3, t4, t5⟩ := w_tab w hw
  have hl := (k_len (wpm w) t1).2.2
  intro k
  induction k with
  | zero =>
    intro m x f hk hx hm
    obtain ⟨m, rfl⟩ : ∃ q, m = q + 1 := ⟨m - 1, by omega⟩
    have : x = kln (wpm w) := by omega
    subst this
    unfold f_X6_wordHere_L37
    rw [ad_nI, gd_iok (by omega) (by omega), if_pos (show mwd (nI (wof w + kln (wpm w))).toNatClampNeg = 32 by rw [cl_nI (by omega), hT _ t2]; exact t4)]
    rfl
  | succ k ih =>
    intro m x f hk hx hm
    obtain ⟨m, rfl⟩ : ∃ q, m = q + 1 := ⟨m - 1, by omega⟩
    obtain ⟨c1, c2⟩ := t5 x (by omega)
    unfold f_X6_wordHere_L37 mr
    rw [ad_nI, gd_iok (by omega) (by omega), if_neg (show ¬ mwd (nI (wof w + x)).toNatClampNeg = 32 by rw [cl_nI (by omega), hT _ (by omega)]; exact c2)]
    have c3 : mwd (wof w + x) = kch (wpm w) x := by rw [hT _ (by omega)]; exact c1
    simp (disch := omega) only [cl_nI, c3, ad_nI, ad1]
    have i0 := ih m (x + 1) false (by omega) (by omega) (by omega)
    have i1 := ih m (x + 1) true (by omega) (by omega) (by omega)
    rw [show bI false = 0 from rfl] at i0
    rw [show bI true = 1 from rfl] at i1
    rw [i0, i1]
    cases f with
    | false => simp [bI, mr_false]
    | true =>
      rw [if_neg (show ¬ bI true = 0 by decide)]
      by_cases hlt : a + x < b
      · rw [if_neg (show ¬ nI b ≤ nI (a + x) by rw [le_nI (by omega) (by omega)]; omega), gd_iok (by omega) (by omega), gd_iok (by omega) (by omega)]
        by_cases hc : mtx (a + x) = kch (wpm w) x
        · rw [if_pos hc]; simp [hc, hlt]
        · rw [if_neg hc]; simp [hc]
      · by_cases hbig : b ≤ a + x
        · by_cases hs : a + x < 2147483648
          · rw [if_pos (show nI b ≤ nI (a + x) by rw [le_nI (by omega) hs]; omega)]
            simp [hlt]
          · exact absurd hs (by omega)
        · omega
def fnd (g : Nat → Bool) (i : Nat) : Nat → Nat → Int32 → Int32
  | 0, _, fd => fd
  | k + 1, w, fd => fnd g i k (w + 1) (if g w && decide (i ≤ w) then nI (w - i) else fd)
theorem q6_word_L8 {mwd mtx : Nat → Int32} {n a b i k0 : Nat} (hT : WTab mwd) (hn : n ≤ 200) (ha : a ≤ n) (hab : a ≤ b) (hb : b ≤ n) (hi : i + k0 ≤ 9) : ∀ (k m w : Nat) (fd : Int32), k = i + k0 - w → w ≤ i + k0 → k < m → f_X6_wordHere_L8 (nI i) (nI k0) (nI n) (nI a) mwd (nI b) mtx m (nI w) (nI (wof w)) fd = some (nI (i + k0), nI (wof (i + k0)), fnd (fun w => wd mtx a b (wpm w)) i k w fd) := by
  intro k
  induction k with
  | zero =>
    intro m w fd hk hw hm
    obtain ⟨m, rfl⟩ : ∃ q, m = q + 1 := ⟨m - 1, by omega⟩
    have : w = i + k0 := by omega
    subst this
    unfold f_X6_wordHere_L8
    rw [ad_nI, if_pos (Int32.le_refl _)]
    rfl
  | succ k ih =>
    intro m w fd hk hw hm
    obtain ⟨m, rfl⟩ : ∃ q, m = q + 1 := ⟨m - 1, by omega⟩
    obtain ⟨t1, t2, t3, t4, t5⟩ := w_tab w (by omega)
    have hl := (k_len (wpm w) t1).2
    have hwof : wof w < 100 := by omega
    unfold f_X6_wordHere_L8 fnd
    rw [ad_nI, if_neg (show ¬ nI (i + k0) ≤ nI w by rw [le_nI (by omega) (by omega)]; omega)]
    have L0 := q6_word_L37 (mtx := mtx) (a := a) (b := b) hT (show w < 9 by omega) hab (by omega) (nI w) (nI (wof w)) fd rfl (kln (wpm w)) 1000 0 false (by omega) (by omega) (by omega)
    have L1 := q6_word_L37 (mtx := mtx) (a := a) (b := b) hT (show w < 9 by omega) hab (by omega) (nI w) (nI (wof w)) fd rfl (kln (wpm w)) 1000 0 true (by omega) (by omega) (by omega)
    rw [show bI false = 0 from rfl, show nI 0 = 0 from rfl] at L0
    rw [show bI true = 1 from rfl, show nI 0 = 0 from rfl] at L1
    rw [L0, L1]
    simp only [Option.bind_some]
    rw [ad1, ad1, ad_nI, ← t3]
    rw [mr_false, if_pos (show bI false = 0 from rfl)]
    have I := fun fd => ih m (w + 1) fd (by omega) (by omega) (by omega)
    rw [I, I]
    by_cases hna : n ≤ a
    · rw [if_pos (show nI n ≤ nI a by rw [le_nI (by omega) (by omega)]; exact hna)]
      have hwd : wd mtx a b (wpm w) = false := by
        unfold wd
        rw [decide_eq_false (show ¬ b - a = kln (wpm w) by omega)]
        rfl
      simp [hwd]
    · rw [if_neg (show ¬ nI n ≤ nI a by rw [le_nI (by omega) (by omega)]; exact hna)]
      simp (disch := omega) only [sb_nI hab, eq_nI, lt_nI]
      by_cases hlen : b - a = kln (wpm w)
      · have hm : mr mtx a b (wpm w) (kln (wpm w)) 0 true = wd mtx a b (wpm w) := by
          rw [mr_mt _ _ _ _ hlen _ _ (by omega)]
          unfold wd
          simp [hlen]
        rw [hm, if_pos hlen]
        cases hwd : wd mtx a b (wpm w) with
        | false => simp [bI]
        | true =>
          rw [if_neg (show ¬ bI true = 0 by decide)]
          by_cases hiw : w < i
          · rw [if_pos hiw]
            simp [show ¬ i ≤ w by omega]
          · rw [if_neg hiw, sb_nI (by omega)]
            simp [show i ≤ w by omega]
      · rw [if_neg hlen]
        have hwd : wd mtx a b (wpm w) = false := by
          unfold wd
          rw [decide_eq_false hlen]
          rfl
        simp [hwd]
theorem q6_wordHere {mwd mtx : Nat → Int32} {n a b i k0 : Nat} (hT : WTab mwd) (hn : n ≤ 200) (ha : a ≤ n) (hab : a ≤ b) (hb : b ≤ n) (hi : i + k0 ≤ 9) : f_X6_wordHere (nI n) (nI a) (nI b) mtx mwd (nI i) (nI k0) = some (fnd (fun w => wd mtx a b (wpm w)) i (i + k0) 0 (-1)) := by
  unfold f_X6_wordHere
  rw [show f_X6_wordHere_L8 (nI i) (nI k0) (nI n) (nI a) mwd (nI b) mtx 1000 0 0 (-1) = f_X6_wordHere_L8 (nI i) (nI k0) (nI n) (nI a) mwd (nI b) mtx 1000 (nI 0) (nI (wof 0)) (-1) from rfl, q6_word_L8 hT hn ha hab hb hi (i + k0) 1000 0 (-1) (by omega) (by omega) (by omega)]
  rfl
theorem mt_head {tx : Nat → Int32} {a wi : Nat} (hl : 1 ≤ kln wi) (h : mt tx a wi (kln wi) 0 = true) : tx a = kch wi 0 := by
  obtain ⟨k, hk⟩ : ∃ k, kln wi = k + 1 := ⟨kln wi - 1, by omega⟩
  rw [hk] at h
  unfold mt at h
  rw [Bool.and_eq_true] at h
  exact of_decide_eq_true h.1
/-- no two words are there at once -/
theorem wd_one {tx : Nat → Int32} {a b v w : Nat} (hv : v < 9) (hw : w < 9) (h1 : wd tx a b v = true) (h2 : wd tx a b w = true) : v = w := by
  unfold wd at h1 h2
  rw [Bool.and_eq_true] at h1 h2
  have l1 := of_decide_eq_true h1.1
  have l2 := of_decide_eq_true h2.1
  have c1 := mt_head (k_len v hv).2.1 h1.2
  have c2 := mt_head (k_len w hw).2.1 h2.2
  have key : ∀ v, v < 9 → ∀ w, w < 9 → kln v = kln w → kch v 0 = kch w 0 → v = w := by decide +kernel
  exact key v hv w hw (by omega) (c1.symm.trans c2)
theorem wd_congr {tx ty : Nat → Int32} {n a b w : Nat} (h : ∀ j, j < n → tx j = ty j) (hb : b ≤ n) : wd tx a b w = wd ty a b w := by
  unfold wd
  by_cases hl : b - a = kln w
  · rw [decide_eq_true hl]
    have : ∀ k x, x + k = kln w → mt tx a w k x = mt ty a w k x := by
      intro k
      induction k with
      | zero => intro x _; rfl
      | succ k ih => intro x hx; unfold mt; rw [h (a + x) (by omega), ih (x + 1) (by omega)]
    rw [this _ _ (by omega)]
  · rw [decide_eq_false hl]
    rfl
