/-! ===== plain facts on numbers that stand in rows ===== -/
theorem li (n : Nat) : (OfNat.ofNat n : Int32) = nI n := rfl
theorem li0 : (0 : Int32) = nI 0 := rfl
theorem li1 : (1 : Int32) = nI 1 := rfl
theorem cl_nI {k : Nat} (h : k < 2147483648) : (nI k).toNatClampNeg = k := nI_clamp h
theorem iok_nI {k N : Nat} (h : k < N) (hN : N < 2147483648) : iok (nI k) N := vp_in_nI h hN
theorem gd_iok {α : Type} {k N : Nat} {x : Option α} (h : k < N) (hN : N < 2147483648) : gd (iok (nI k) N) x = x := gd_t (iok_nI h hN)
theorem ad_nI (a b : Nat) : nI a + nI b = nI (a + b) := nI_add a b
theorem mu_nI (a b : Nat) : nI a * nI b = nI (a * b) := pk_mul a b
theorem sb_nI {a b : Nat} (h : b ≤ a) : nI a - nI b = nI (a - b) := pk_sub h
theorem lt_nI {a b : Nat} (ha : a < 2147483648) (hb : b < 2147483648) : (nI a < nI b) = (a < b) := propext (nI_ltI ha hb)
theorem le_nI {a b : Nat} (ha : a < 2147483648) (hb : b < 2147483648) : (nI a ≤ nI b) = (a ≤ b) := propext (nI_leI ha hb)
theorem eq_nI {a b : Nat} (ha : a < 2147483648) (hb : b < 2147483648) : (nI a = nI b) = (a = b) := propext (nI_eq ha hb)
theorem m1_ne (a : Nat) (ha : a < 2147483648) : ¬ nI a = -1 := by
  intro h
  have h1 := congrArg Int32.toInt h
  rw [nI_toInt ha] at h1
  have h2 : ((-1 : Int32)).toInt = -1 := by decide
  omega
theorem nI_inj {a b : Nat} (ha : a < 2147483648) (hb : b < 2147483648) (h : nI a = nI b) : a = b := (nI_eq ha hb).mp h
theorem nneg {a : Nat} (ha : a < 2147483648) : ¬ nI a < 0 := nI_pos ha
theorem upd_s {f : Nat → Int32} {k : Nat} {x : Int32} : upd f k x k = x := pk_us
theorem upd_n {f : Nat → Int32} {k j : Nat} {x : Int32} (h : j ≠ k) : upd f k x j = f j := pk_un h
theorem vfu_s {f : Nat → UInt32} {k : Nat} {x : UInt32} : vf_upd f k x k = x := if_pos rfl
theorem vfu_n {f : Nat → UInt32} {k j : Nat} {x : UInt32} (h : j ≠ k) : vf_upd f k x j = f j := if_neg h
theorem upd_at (f : Nat → Int32) (k j : Nat) (x : Int32) : upd f k x j = if j = k then x else f j := by
  by_cases h : j = k
  · rw [h, upd_s, if_pos rfl]
  · rw [upd_n h, if_neg h]
theorem vfu_at (f : Nat → UInt32) (k j : Nat) (x : UInt32) : vf_upd f k x j = if j = k then x else f j := rfl
theorem bind_some {α β : Type} (a : α) (f : α → Option β) : (some a).bind f = f a := rfl
/-- an int is in a range or it isn't -/
theorem ix_cases (x : Int32) (n : Nat) (hn : n < 2147483648) : x < 0 ∨ nI n ≤ x ∨ ∃ j : Nat, j < n ∧ x = nI j := pk_ix x hn
theorem toInt_lt {a b : Int32} : a < b ↔ a.toInt < b.toInt := Int32.lt_iff_toInt_lt
theorem toInt_le {a b : Int32} : a ≤ b ↔ a.toInt ≤ b.toInt := Int32.le_iff_toInt_le
theorem nI_ti {a : Nat} (ha : a < 2147483648) : (nI a).toInt = a := nI_toInt ha
