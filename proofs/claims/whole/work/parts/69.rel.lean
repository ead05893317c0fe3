/-! ===== an int in or out of a range, in both; what relates the two objects ===== -/
theorem ti0 : (0 : Int32).toInt = 0 := by decide
theorem ge_neg {x : Int32} {n : Nat} (hn : n < 2147483648) (h : nI n ≤ x) : ¬ x < 0 := by
  rw [toInt_le, nI_ti hn] at h
  rw [toInt_lt, ti0]
  omega
theorem ge_lt {x : Int32} {n k : Nat} (hn : n < 2147483648) (h : nI n ≤ x) (hk : k ≤ n) : ¬ x < nI k := by
  rw [toInt_le, nI_ti hn] at h
  rw [toInt_lt, nI_ti (by omega)]
  omega
theorem ge_le {x : Int32} {n k : Nat} (hn : n < 2147483648) (h : nI n ≤ x) (hk : k < n) : ¬ x ≤ nI k := by
  rw [toInt_le, nI_ti hn] at h
  rw [toInt_le, nI_ti (by omega)]
  omega
theorem ge_eq {x : Int32} {n k : Nat} (hn : n < 2147483648) (h : nI n ≤ x) (hk : k < n) : ¬ x = nI k := fun e => ge_le hn h hk (e ▸ Int32.le_refl _)
theorem m1_ti {n : Nat} (hn : n < 2147483648) : (nI n - 1).toInt = (n : Int) - 1 := by
  cases n with
  | zero => decide
  | succ n =>
    rw [show (1 : Int32) = nI 1 from rfl, sb_nI (by omega), nI_ti (by omega)]
    omega
theorem in_lo {x : Int32} {n : Nat} (h : x < 0) : f_X6_in x.toInt64 0 (nI n - 1).toInt64 = some 0 := by
  rw [show f_X6_in x.toInt64 0 (nI n - 1).toInt64 = f_X6_in x.toInt64 (0 : Int32).toInt64 (nI n - 1).toInt64 from rfl, q6_in]
  rw [toInt_lt, ti0] at h
  rw [decide_eq_false (show ¬ (0 : Int32) ≤ x by rw [toInt_le, ti0]; omega)]
  rfl
theorem in_hi {x : Int32} {n : Nat} (hn : n < 2147483648) (h : nI n ≤ x) : f_X6_in x.toInt64 0 (nI n - 1).toInt64 = some 0 := by
  rw [show f_X6_in x.toInt64 0 (nI n - 1).toInt64 = f_X6_in x.toInt64 (0 : Int32).toInt64 (nI n - 1).toInt64 from rfl, q6_in]
  rw [toInt_le, nI_ti hn] at h
  rw [decide_eq_false (show ¬ x ≤ (nI n - 1) by rw [toInt_le, m1_ti hn]; omega), Bool.and_false]
  rfl
theorem in_ok {j n : Nat} (hn : n < 2147483648) (h : j < n) : f_X6_in (nI j).toInt64 0 (nI n - 1).toInt64 = some 1 := by
  rw [show f_X6_in (nI j).toInt64 0 (nI n - 1).toInt64 = f_X6_in (nI j).toInt64 (0 : Int32).toInt64 (nI n - 1).toInt64 from rfl, q6_in]
  rw [decide_eq_true (show (0 : Int32) ≤ nI j by rw [toInt_le, ti0, nI_ti (by omega)]; omega), decide_eq_true (show nI j ≤ nI n - 1 by rw [toInt_le, m1_ti hn, nI_ti (by omega)]; omega)]
  rfl
/-- the texts -/
def RTx (tx : TxT) (mtx : Nat → Int32) (mln : Int32) : Prop := ∃ n, n ≤ 200 ∧ tx.1 = nI n ∧ mln = nI n ∧ ∀ j, j < n → tx.2.2.2.2.2.1 j = mtx j
/-- the figures told -/
def VOK (v : Int32) : Prop := -99 ≤ v.toInt ∧ v.toInt ≤ 99
def RFi (S W : Nat) (fi : FiT) (mst mwy mmk mwt : Int32) (mvl mof : Nat → Int32) : Prop :=
  fi.1 = nI S ∧ mst = nI S ∧ fi.2.1 = nI W ∧ mwy = nI W ∧ (∃ k, k < 16 ∧ fi.2.2.1 = nI k ∧ mmk = nI k) ∧ (∃ k, k < 17 ∧ fi.2.2.2.1 = nI k ∧ mwt = nI k) ∧ (∀ j, j < 4 * S → fi.2.2.2.2.1 j = mvl j ∧ VOK (mvl j)) ∧ FigOK S W (fun w k => fi.2.2.2.2.2 (w * 7 + k)) ∧ WR W (fun w k => fi.2.2.2.2.2 (w * 7 + k)) mof
/-- what has been -/
def RPa (S W u p : Nat) (past : Nat → MoT) (mw : Nat → Int32) (mf : Nat → UInt32) : Prop := ∀ k, k < u → ∃ m : AM, past ((p + 8 - (u - 1 - k)) % 8) = moT m ∧ MOK S W m ∧ MR m mw mf (4 + k)
def RKp (S W : Nat) (stored : Nat → MoT) (ist mik : Nat → Int32) (mw : Nat → Int32) (mf : Nat → UInt32) : Prop := ∀ k, k < 2 → (ist k = 0 ∧ mik k = 0) ∨ (ist k = 1 ∧ mik k = 1 ∧ ∃ m : AM, stored k = moT m ∧ MOK S W m ∧ MR m mw mf (2 + k))
def RMo (S W : Nat) (now : MoT) (past stored : Nat → MoT) (ist : Nat → Int32) (np un : Int32) (mw : Nat → Int32) (mf : Nat → UInt32) (mun : Int32) (mik : Nat → Int32) : Prop :=
  ∃ (u p : Nat) (m : AM), u ≤ 8 ∧ p < 8 ∧ un = nI u ∧ mun = nI u ∧ np = nI p ∧ now = moT m ∧ MOK S W m ∧ MR m mw mf 0 ∧ RPa S W u p past mw mf ∧ RKp S W stored ist mik mw mf
/-- a shelf -/
def RMk (a b : Int32) : Prop := (a = -15 ∧ b = -1) ∨ ∃ v, v < 2000 ∧ a = nI v ∧ b = nI v
def RSf (sh : ShT) (sz so : Int32) (pl : Nat → Int32) : Prop :=
  (sh.1 = 1 ∧ sh.2.2.1 = nI 0 ∧ sz = -1) ∨ (sh.1 = 0 ∧ ∃ n f, n ≤ 8 ∧ f < 3 ∧ sh.2.1 = nI f ∧ so = nI f ∧ sh.2.2.1 = nI n ∧ sz = nI n ∧ ∀ j, j < n → RMk (sh.2.2.2 j) (pl j))
def RSh (sh : Nat → ShT) (msz mso mpl : Nat → Int32) : Prop := ∀ i, i < 3 → RSf (sh i) (msz i) (mso i) (fun j => mpl (8 * i + j))
/-- the two objects -/
def RR (σ : XS) (τ : RS) : Prop :=
  RTx σ.1 τ.2.2.2.2.2.2.2.2.2.2.1 τ.2.2.2.2.2.2.2.2.2.2.2.1 ∧ WTab τ.2.2.2.2.2.2.2.2.2.2.2.2.2.2.2.2.2.2.2.1 ∧ RSh σ.2.2.2.2.2.2.2.2.2.2 τ.2.2.2.2.2.2.2.2.2.2.2.2.2.2.2.2.2.2.2.2.1 τ.2.2.2.2.2.2.2.2.2.2.2.2.2.2.2.2.2.2.2.2.2.1 τ.2.2.2.2.2.2.2.2.2.2.2.2.2.2.2.2.2.2.2.2.2.2 ∧ ∃ S W : Nat, RFi S W σ.2.1 τ.1 τ.2.1 τ.2.2.1 τ.2.2.2.1 τ.2.2.2.2.1 τ.2.2.2.2.2.1 ∧ RMo S W σ.2.2.2.1 σ.2.2.2.2.2.1 σ.2.2.2.2.2.2.1 σ.2.2.2.2.2.2.2.1 σ.2.2.2.2.2.2.2.2.1 σ.2.2.2.2.2.2.2.2.2.1 τ.2.2.2.2.2.2.1 τ.2.2.2.2.2.2.2.1 τ.2.2.2.2.2.2.2.2.1 τ.2.2.2.2.2.2.2.2.2.1
/-- both do a call, and answer the same int -/
abbrev RInt : Type := Int32
abbrev RInt.int (x : Int32) : RInt := x
abbrev RLong : Type := Int64
abbrev RLong.long (x : Int64) : RLong := x
def BothDo (l : Launch) (D : va_G) (B : Nat) (adK adV : Nat → Nat) (cC cF cI cZ cM cS : ClassId) (xa : Nat) (ad : Nat → Nat) (ya : Nat) (am : Nat → Nat) (y : MethodName) (wsy : List Cond) (rm : Room) (y6 : MethodName) (ws6 : List Cond) (rm6 : Room) (args : List Value) (σ : XS) (τ : RS) : Prop :=
  ∃ (v : RInt) (σ' : XS) (τ' : RS), Ct l y wsy rm D B adK adV (tysX cC cF cI cZ cM cS) (.ref xa :: args) (WX xa ad cC cF cI cZ cM cS σ) (WX xa ad cC cF cI cZ cM cS σ') (some (.int v)) ∧ Ct l y6 ws6 rm6 D B adK adV (tysX cC cF cI cZ cM cS) (.ref ya :: args) (WM ya am cC cF cI cZ cM cS τ) (WM ya am cC cF cI cZ cM cS τ') (some (.int v)) ∧ RR σ' τ'
/-- the same long -/
def BothDoL (l : Launch) (D : va_G) (B : Nat) (adK adV : Nat → Nat) (cC cF cI cZ cM cS : ClassId) (xa : Nat) (ad : Nat → Nat) (ya : Nat) (am : Nat → Nat) (y : MethodName) (wsy : List Cond) (rm : Room) (y6 : MethodName) (ws6 : List Cond) (rm6 : Room) (args : List Value) (σ : XS) (τ : RS) : Prop :=
  ∃ (v : RLong) (σ' : XS) (τ' : RS), Ct l y wsy rm D B adK adV (tysX cC cF cI cZ cM cS) (.ref xa :: args) (WX xa ad cC cF cI cZ cM cS σ) (WX xa ad cC cF cI cZ cM cS σ') (some (.long v)) ∧ Ct l y6 ws6 rm6 D B adK adV (tysX cC cF cI cZ cM cS) (.ref ya :: args) (WM ya am cC cF cI cZ cM cS τ) (WM ya am cC cF cI cZ cM cS τ') (some (.long v)) ∧ RR σ' τ'
theorem nar_char : ∀ c, c < 256 → vp_nar .char (((nI c).toUInt32 % 65536).toInt32) = nI c := by decide +kernel
theorem s_write {tx : TxT} {mtx : Nat → Int32} {mln : Int32} (h : RTx tx mtx mln) (ch : Int32) : ∃ r lt' n' mtx', f_X5_write tx.1 tx.2.2.2.2.2.1 ch = some (r, lt', n') ∧ f_X6_write mln mtx ch = some (r, mtx', n') ∧ RTx (n', tx.2.1, tx.2.2.1, tx.2.2.2.1, tx.2.2.2.2.1, lt', tx.2.2.2.2.2.2) mtx' n' := by
  obtain ⟨n, hn, h1, h2, h3⟩ := h
  unfold f_X5_write f_X6_write
  rw [show f_X6_in ch.toInt64 0 255 = f_X6_in ch.toInt64 0 (nI 256 - 1).toInt64 from rfl, h1, h2]
  rcases ix_cases ch 256 (by omega) with hc | hc | ⟨c, hc, rfl⟩
  · rw [if_pos hc, in_lo hc]
    exact ⟨-3, _, nI n, mtx, rfl, rfl, n, hn, rfl, rfl, h3⟩
  · rw [if_neg (ge_neg (by omega) hc), if_neg (show ¬ ch ≤ 255 from ge_le (k := 255) (by omega) hc (by omega)), in_hi (by omega) hc]
    exact ⟨-3, _, nI n, mtx, rfl, rfl, n, hn, rfl, rfl, h3⟩
  · rw [if_neg (nneg (by omega)), if_pos (show nI c ≤ 255 by show nI c ≤ nI 255; rw [le_nI (by omega) (by omega)]; omega), in_ok (by omega) hc]
    simp only [Option.bind_some]
    rw [if_neg (show ¬ (1 : Int32) = 0 by decide)]
    by_cases hl : n < 200
    · rw [if_pos (show nI n < 200 by show nI n < nI 200; rw [lt_nI (by omega) (by omega)]; exact hl), if_neg (show ¬ nI n = 200 by show ¬ nI n = nI 200; rw [eq_nI (by omega) (by omega)]; omega), gd_iok hl (by omega), gd_iok hl (by omega), cl_nI (by omega), nar_char c hc, ad1]
      refine ⟨_, _, _, _, rfl, rfl, n + 1, by omega, rfl, rfl, fun j hj => ?_⟩
      show upd tx.2.2.2.2.2.1 n (nI c) j = upd mtx n (nI c) j
      by_cases hjn : j = n
      · subst hjn; rw [upd_s, upd_s]
      · rw [upd_n hjn, upd_n hjn]; exact h3 j (by omega)
    · have : n = 200 := by omega
      subst this
      rw [if_neg (show ¬ nI 200 < 200 by decide), if_pos (show nI 200 = 200 from rfl)]
      exact ⟨-5, _, nI 200, mtx, rfl, rfl, 200, hn, rfl, rfl, h3⟩
