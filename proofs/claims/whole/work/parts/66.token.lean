/-! ===== tokens: the class's text and the reference's are read alike ===== -/
/-- 1 of a digit, 2 of a small letter, 0 of another one -/
def knd (c : Int32) : Nat := if 48 ≤ c ∧ c ≤ 57 then 1 else if 97 ≤ c ∧ c ≤ 122 then 2 else 0
def skp (tx : Nat → Int32) : Nat → Nat → Nat
  | 0, p => p
  | k + 1, p => if tx p = 32 then skp tx k (p + 1) else p
def rn (tx : Nat → Int32) (kd : Nat) : Nat → Nat → Nat
  | 0, p => p
  | k + 1, p => if kd ≠ 0 ∧ knd (tx p) = kd then rn tx kd k (p + 1) else p
def tend (tx : Nat → Int32) (n a : Nat) : Nat := if a < n then rn tx (knd (tx a)) (n - (a + 1)) (a + 1) else a
def tsta (tx : Nat → Int32) (n p : Nat) : Nat := skp tx (n - p) p
theorem skp_in (tx : Nat → Int32) : ∀ (k p : Nat), p ≤ skp tx k p ∧ skp tx k p ≤ p + k := by
  intro k
  induction k with
  | zero => intro p; exact ⟨Nat.le_refl _, Nat.le_refl _⟩
  | succ k ih =>
    intro p
    unfold skp
    split
    · obtain ⟨a, b⟩ := ih (p + 1); exact ⟨by omega, by omega⟩
    · exact ⟨by omega, by omega⟩
theorem rn_in (tx : Nat → Int32) (kd : Nat) : ∀ (k p : Nat), p ≤ rn tx kd k p ∧ rn tx kd k p ≤ p + k := by
  intro k
  induction k with
  | zero => intro p; exact ⟨Nat.le_refl _, Nat.le_refl _⟩
  | succ k ih =>
    intro p
    unfold rn
    split
    · obtain ⟨a, b⟩ := ih (p + 1); exact ⟨by omega, by omega⟩
    · exact ⟨by omega, by omega⟩
theorem tsta_in {tx : Nat → Int32} {n p : Nat} (h : p ≤ n) : p ≤ tsta tx n p ∧ tsta tx n p ≤ n := by
  unfold tsta
  have := skp_in tx (n - p) p
  omega
theorem tend_in {tx : Nat → Int32} {n a : Nat} (h : a ≤ n) : a ≤ tend tx n a ∧ tend tx n a ≤ n ∧ (a < n → a < tend tx n a) := by
  unfold tend
  split
  · have := rn_in tx (knd (tx a)) (n - (a + 1)) (a + 1); omega
  · omega
theorem tx_congr {tx ty : Nat → Int32} {n : Nat} (h : ∀ j, j < n → tx j = ty j) : (∀ k p, p + k ≤ n → skp tx k p = skp ty k p) ∧ (∀ kd k p, p + k ≤ n → rn tx kd k p = rn ty kd k p) := by
  constructor
  · intro k
    induction k with
    | zero => intro p _; rfl
    | succ k ih => intro p hp; unfold skp; rw [h p (by omega), ih (p + 1) (by omega)]
  · intro kd k
    induction k with
    | zero => intro p _; rfl
    | succ k ih => intro p hp; unfold rn; rw [h p (by omega), ih (p + 1) (by omega)]
theorem tsta_congr {tx ty : Nat → Int32} {n p : Nat} (h : ∀ j, j < n → tx j = ty j) (hp : p ≤ n) : tsta tx n p = tsta ty n p := (tx_congr h).1 _ _ (by omega)
theorem tend_congr {tx ty : Nat → Int32} {n a : Nat} (h : ∀ j, j < n → tx j = ty j) : tend tx n a = tend ty n a := by
  unfold tend
  split
  · rename_i ha
    rw [h a ha, (tx_congr h).2 _ _ _ (by omega)]
  · rfl
theorem q_adv_L8 {lt : Nat → Int32} {n : Nat} (hn : n ≤ 200) : ∀ (k m p : Nat), k = n - p → p ≤ n → k < m → f_X4_advance_L8 (nI n) lt m (nI p) = some (nI (skp lt k p)) := by
  intro k
  induction k with
  | zero =>
    intro m p hk hp hm
    obtain ⟨m, rfl⟩ : ∃ q, m = q + 1 := ⟨m - 1, by omega⟩
    have : p = n := by omega
    subst this
    unfold f_X4_advance_L8
    rw [if_pos (Int32.le_refl _)]
    rfl
  | succ k ih =>
    intro m p hk hp hm
    obtain ⟨m, rfl⟩ : ∃ q, m = q + 1 := ⟨m - 1, by omega⟩
    unfold f_X4_advance_L8 skp
    rw [if_neg (show ¬ nI n ≤ nI p by rw [le_nI (by omega) (by omega)]; omega), gd_iok (by omega) (by omega), cl_nI (by omega), ad1]
    by_cases h : lt p = 32
    · rw [if_pos h, if_pos h, ih m (p + 1) (by omega) (by omega) (by omega)]
    · rw [if_neg h, if_neg h]
theorem q6_adv_L8 {lt : Nat → Int32} {n : Nat} (hn : n ≤ 200) : ∀ (k m p : Nat), k = n - p → p ≤ n → k < m → f_X6_nextToken_L8 (nI n) lt m (nI p) = some (nI (skp lt k p)) := by
  intro k
  induction k with
  | zero =>
    intro m p hk hp hm
    obtain ⟨m, rfl⟩ : ∃ q, m = q + 1 := ⟨m - 1, by omega⟩
    have : p = n := by omega
    subst this
    unfold f_X6_nextToken_L8
    rw [if_pos (Int32.le_refl _)]
    rfl
  | succ k ih =>
    intro m p hk hp hm
    obtain ⟨m, rfl⟩ : ∃ q, m = q + 1 := ⟨m - 1, by omega⟩
    unfold f_X6_nextToken_L8 skp
    rw [if_neg (show ¬ nI n ≤ nI p by rw [le_nI (by omega) (by omega)]; omega), gd_iok (by omega) (by omega), cl_nI (by omega), ad1]
    by_cases h : lt p = 32
    · rw [if_pos h, if_pos h, ih m (p + 1) (by omega) (by omega) (by omega)]
    · rw [if_neg h, if_neg h]
/-- the class's loop over the letters of a token -/
theorem q_adv_L141 {lt : Nat → Int32} {n : Nat} (hn : n ≤ 200) (kd : Nat) (lo hi x2 x1 ts : Int32) (hk0 : kd ≠ 0) (hkd : ∀ c : Int32, knd c = kd ↔ (lo ≤ c ∧ c ≤ hi)) : ∀ (k m p : Nat), k = n - p → p ≤ n → k < m → f_X4_advance_L141 (nI n) lt m (nI p) hi lo x2 x1 ts = some (hi, lo, x2, x1, ts, nI (rn lt kd k p)) := by
  intro k
  induction k with
  | zero =>
    intro m p hk hp hm
    obtain ⟨m, rfl⟩ : ∃ q, m = q + 1 := ⟨m - 1, by omega⟩
    have : p = n := by omega
    subst this
    unfold f_X4_advance_L141
    rw [if_pos (Int32.le_refl _)]
    rfl
  | succ k ih =>
    intro m p hk hp hm
    obtain ⟨m, rfl⟩ : ∃ q, m = q + 1 := ⟨m - 1, by omega⟩
    unfold f_X4_advance_L141 rn
    rw [if_neg (show ¬ nI n ≤ nI p by rw [le_nI (by omega) (by omega)]; omega), gd_iok (by omega) (by omega), gd_iok (by omega) (by omega), cl_nI (by omega), ad1]
    by_cases h : knd (lt p) = kd
    · obtain ⟨h1, h2⟩ := (hkd _).mp h
      rw [if_neg (show ¬ lt p < lo by rw [toInt_lt]; rw [toInt_le] at h1; omega), if_neg (show ¬ hi < lt p by rw [toInt_lt]; rw [toInt_le] at h2; omega), if_pos ⟨hk0, h⟩, ih m (p + 1) (by omega) (by omega) (by omega)]
    · rw [if_neg (show ¬ (kd ≠ 0 ∧ knd (lt p) = kd) from fun z => h z.2)]
      by_cases h1 : lt p < lo
      · rw [if_pos h1]
      · rw [if_neg h1, if_pos]
        have h3 : ¬ (lo ≤ lt p ∧ lt p ≤ hi) := fun z => h ((hkd _).mpr z)
        rw [toInt_le, toInt_le] at h3
        rw [toInt_lt] at h1 ⊢
        omega
theorem knd1 (c : Int32) : knd c = 1 ↔ (48 ≤ c ∧ c ≤ 57) := by
  unfold knd
  by_cases h : 48 ≤ c ∧ c ≤ 57
  · rw [if_pos h]; simp [h]
  · rw [if_neg h]; constructor
    · intro z; split at z <;> cases z
    · intro z; exact absurd z h
theorem knd2 (c : Int32) : knd c = 2 ↔ (97 ≤ c ∧ c ≤ 122) := by
  unfold knd
  by_cases h : 48 ≤ c ∧ c ≤ 57
  · rw [if_pos h]
    constructor
    · intro z; cases z
    · intro z
      have h1 := toInt_le.mp h.2
      have h2 := toInt_le.mp z.1
      have e1 : (57 : Int32).toInt = 57 := by decide
      have e2 : (97 : Int32).toInt = 97 := by decide
      omega
  · rw [if_neg h]
    by_cases h2 : 97 ≤ c ∧ c ≤ 122
    · rw [if_pos h2]; simp [h2]
    · rw [if_neg h2]; constructor
      · intro z; cases z
      · intro z; exact absurd z h2
theorem knd_le (c : Int32) : knd c = 0 ∨ knd c = 1 ∨ knd c = 2 := by unfold knd; split; exact Or.inr (Or.inl rfl); split; exact Or.inr (Or.inr rfl); exact Or.inl rfl
theorem rn0 (tx : Nat → Int32) (k p : Nat) : rn tx 0 k p = p := by cases k <;> simp [rn]
theorem q_advance {lt : Nat → Int32} {n p : Nat} (hn : n ≤ 200) (hp : p ≤ n) : f_X4_advance (nI n) (nI p) lt = some (nI (tsta lt n p), nI (tend lt n (tsta lt n p))) := by
  unfold f_X4_advance
  rw [q_adv_L8 hn (n - p) 1000 p rfl hp (by omega)]
  simp only [Option.bind_some]
  have ha := tsta_in (tx := lt) hp
  rw [show skp lt (n - p) p = tsta lt n p from rfl]
  generalize tsta lt n p = a at ha ⊢
  by_cases h : a < n
  · rw [if_pos (by rw [lt_nI (by omega) (by omega)]; exact h)]
    rw [gd_iok (by omega) (by omega), cl_nI (by omega), ad1]
    unfold tend
    rw [if_pos h]
    have e48 : (48 : Int32).toInt = 48 := by decide
    have e57 : (57 : Int32).toInt = 57 := by decide
    have e97 : (97 : Int32).toInt = 97 := by decide
    have e122 : (122 : Int32).toInt = 122 := by decide
    have LD := q_adv_L141 (lt := lt) hn 1 48 57 1 (lt a) (nI a) (by decide) (fun c => knd1 c) (n - (a + 1)) 1000 (a + 1) rfl (by omega) (by omega)
    have LL := q_adv_L141 (lt := lt) hn 2 97 122 0 (lt a) (nI a) (by decide) (fun c => knd2 c) (n - (a + 1)) 1000 (a + 1) rfl (by omega) (by omega)
    rw [LD, LL]
    simp only [Option.bind_some]
    rcases knd_le (lt a) with hk | hk | hk
    · have h1 : ¬ (48 ≤ lt a ∧ lt a ≤ 57) := fun z => by rw [(knd1 _).mpr z] at hk; cases hk
      have h2 : ¬ (97 ≤ lt a ∧ lt a ≤ 122) := fun z => by rw [(knd2 _).mpr z] at hk; cases hk
      rw [hk, rn0]
      rw [toInt_le, toInt_le] at h1 h2
      by_cases c1 : lt a < 48
      · rw [if_pos c1, if_pos (show lt a < 97 by rw [toInt_lt] at c1 ⊢; omega)]
      · rw [if_neg c1, if_pos (show 57 < lt a by rw [toInt_lt] at c1 ⊢; omega)]
        by_cases c2 : lt a < 97
        · rw [if_pos c2]
        · rw [if_neg c2, if_neg (show ¬ lt a ≤ 122 by rw [toInt_le]; rw [toInt_lt] at c2; omega)]
    · have h1 := (knd1 _).mp hk
      rw [hk]
      rw [toInt_le, toInt_le] at h1
      rw [if_neg (show ¬ lt a < 48 by rw [toInt_lt]; omega), if_neg (show ¬ 57 < lt a by rw [toInt_lt]; omega), if_pos (show lt a ≤ 57 by rw [toInt_le]; omega)]
    · have h1 := (knd2 _).mp hk
      rw [hk]
      rw [toInt_le, toInt_le] at h1
      rw [if_neg (show ¬ lt a < 48 by rw [toInt_lt]; omega), if_pos (show 57 < lt a by rw [toInt_lt]; omega), if_neg (show ¬ lt a < 97 by rw [toInt_lt]; omega), if_pos (show lt a ≤ 122 by rw [toInt_le]; omega)]
  · rw [if_neg (by rw [lt_nI (by omega) (by omega)]; exact h)]
    unfold tend
    rw [if_neg h]
/-- the reference's own tests -/
theorem lgc_lt (x y : Int64) : lg_cmp x y < 0 ↔ x < y := by
  unfold lg_cmp
  by_cases h1 : x > y
  · rw [if_pos h1]
    exact ⟨fun z => absurd z (by decide), fun z => absurd (Int64.lt_trans h1 z) Int64.lt_irrefl⟩
  · rw [if_neg h1]
    by_cases h2 : x = y
    · rw [if_pos h2]
      exact ⟨fun z => absurd z (by decide), fun z => absurd (h2 ▸ z) Int64.lt_irrefl⟩
    · rw [if_neg h2]
      refine ⟨fun _ => ?_, fun _ => by decide⟩
      rw [gt_iff_lt, Int64.lt_iff_toInt_lt] at h1
      rw [Int64.lt_iff_toInt_lt]
      have : x.toInt ≠ y.toInt := fun z => h2 (Int64.toInt_inj.mp z)
      omega
theorem lgc_gt (x y : Int64) : 0 < lg_cmp x y ↔ y < x := by
  unfold lg_cmp
  by_cases h1 : x > y
  · rw [if_pos h1]
    exact ⟨fun _ => h1, fun _ => by decide⟩
  · rw [if_neg h1]
    refine ⟨fun z => absurd z ?_, fun z => absurd z h1⟩
    split <;> decide
theorem q6_in {v lo hi : Int32} : f_X6_in v.toInt64 lo.toInt64 hi.toInt64 = some (bI (decide (lo ≤ v) && decide (v ≤ hi))) := by
  unfold f_X6_in bI
  have e1 : (lg_cmp v.toInt64 lo.toInt64 < 0) ↔ ¬ lo ≤ v := by
    rw [lgc_lt, Int64.lt_iff_toInt_lt, Int32.toInt_toInt64, Int32.toInt_toInt64, toInt_le]; omega
  have e2 : (0 < lg_cmp v.toInt64 hi.toInt64) ↔ ¬ v ≤ hi := by
    rw [lgc_gt, Int64.lt_iff_toInt_lt, Int32.toInt_toInt64, Int32.toInt_toInt64, toInt_le]; omega
  by_cases h1 : lo ≤ v
  · rw [if_neg (fun z => (e1.mp z) h1)]
    by_cases h2 : v ≤ hi
    · rw [if_neg (fun z => (e2.mp z) h2)]; simp [h1, h2]
    · rw [if_pos (e2.mpr h2)]; simp [h2]
  · rw [if_pos (e1.mpr h1)]; simp [h1]
theorem q6_isDigit (c : Int32) : f_X6_isDigit c = some (bI (decide (knd c = 1))) := by
  unfold f_X6_isDigit
  rw [show f_X6_in c.toInt64 48 57 = f_X6_in c.toInt64 (48 : Int32).toInt64 (57 : Int32).toInt64 from rfl, q6_in]
  simp only [Option.bind_some]
  rw [gd_t (bI_zok _)]
  have := knd1 c
  congr 2
  by_cases h : knd c = 1
  · simp [h, this.mp h]
  · have h2 : ¬ (48 ≤ c ∧ c ≤ 57) := fun z => h (this.mpr z)
    simp only [h, decide_false]
    rw [Bool.and_eq_false_iff]
    by_cases h3 : 48 ≤ c
    · right; exact decide_eq_false (fun z => h2 ⟨h3, z⟩)
    · left; exact decide_eq_false h3
theorem q6_isLetter (c : Int32) : f_X6_isLetter c = some (bI (decide (knd c = 2))) := by
  unfold f_X6_isLetter
  rw [show f_X6_in c.toInt64 97 122 = f_X6_in c.toInt64 (97 : Int32).toInt64 (122 : Int32).toInt64 from rfl, q6_in]
  simp only [Option.bind_some]
  rw [gd_t (bI_zok _)]
  have := knd2 c
  congr 2
  by_cases h : knd c = 2
  · simp [h, this.mp h]
  · have h2 : ¬ (97 ≤ c ∧ c ≤ 122) := fun z => h (this.mpr z)
    simp only [h, decide_false]
    rw [Bool.and_eq_false_iff]
    by_cases h3 : 97 ≤ c
    · right; exact decide_eq_false (fun z => h2 ⟨h3, z⟩)
    · left; exact decide_eq_false h3
theorem q6_adv_L85 {lt : Nat → Int32} {n : Nat} (hn : n ≤ 200) (x1 fi : Int32) : ∀ (k m p : Nat), k = n - p → p ≤ n → k < m → f_X6_nextToken_L85 (nI n) lt m (nI p) x1 fi = some (nI (rn lt (knd x1) k p), x1, fi) := by
  intro k
  induction k with
  | zero =>
    intro m p hk hp hm
    obtain ⟨m, rfl⟩ : ∃ q, m = q + 1 := ⟨m - 1, by omega⟩
    have : p = n := by omega
    subst this
    unfold f_X6_nextToken_L85
    rw [if_pos (Int32.le_refl _)]
    rfl
  | succ k ih =>
    intro m p hk hp hm
    obtain ⟨m, rfl⟩ : ∃ q, m = q + 1 := ⟨m - 1, by omega⟩
    unfold f_X6_nextToken_L85 rn
    rw [if_neg (show ¬ nI n ≤ nI p by rw [le_nI (by omega) (by omega)]; omega)]
    simp (disch := omega) only [gd_iok, cl_nI, ad1, q6_isLetter, q6_isDigit, ih m (p + 1) (by omega) (by omega) (by omega), Option.bind_some]
    rcases knd_le x1 with h | h | h
    · simp [h, bI]
    · by_cases h2 : knd (lt p) = 1 <;> simp [h, h2, bI]
    · by_cases h2 : knd (lt p) = 2 <;> simp [h, h2, bI]
theorem q6_nextToken {lt : Nat → Int32} {n p : Nat} (hn : n ≤ 200) (hp : p ≤ n) : f_X6_nextToken (nI n) (nI p) lt = some (nI (tsta lt n p), nI (tend lt n (tsta lt n p))) := by
  unfold f_X6_nextToken
  rw [q6_adv_L8 hn (n - p) 1000 p rfl hp (by omega)]
  simp only [Option.bind_some]
  have ha := tsta_in (tx := lt) hp
  rw [show skp lt (n - p) p = tsta lt n p from rfl]
  generalize tsta lt n p = a at ha ⊢
  unfold tend
  by_cases h : a < n
  · rw [if_neg (show ¬ nI n ≤ nI a by rw [le_nI (by omega) (by omega)]; omega), gd_iok (by omega) (by omega), cl_nI (by omega), ad1, q6_adv_L85 hn _ _ (n - (a + 1)) 1000 (a + 1) rfl (by omega) (by omega)]
    simp only [Option.bind_some]
    rw [if_pos h]
  · rw [if_pos (show nI n ≤ nI a by rw [le_nI (by omega) (by omega)]; omega), if_neg h]
