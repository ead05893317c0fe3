/-! ===== the plain calls ===== -/
theorem do_write {l : Launch} {D : va_G} {B : Nat} {adK adV : Nat → Nat} {cC cF cI cZ cM cS : ClassId} {xa : Nat} {ad : Nat → Nat} {ya : Nat} {am : Nat → Nat} {σ : XS} {τ : RS} (hR : RR σ τ) (ch : Int32) : B_write l D B adK adV cC cF cI cZ cM cS xa ad ya am ch σ τ := by
  obtain ⟨h1, h2, h3, S, W, h4, h5⟩ := hR
  obtain ⟨r, lt', n', mtx', e1, e2, e3⟩ := s_write h1 ch
  exact ⟨.int r, _, _, k_write l D B adK adV cC cF cI cZ cM cS xa ad σ ch (r, lt', n') e1, k6_write l D B adK adV cC cF cI cZ cM cS ya am τ ch (r, mtx', n') e2, e3, h2, h3, S, W, h4, h5⟩
theorem do_erase {l : Launch} {D : va_G} {B : Nat} {adK adV : Nat → Nat} {cC cF cI cZ cM cS : ClassId} {xa : Nat} {ad : Nat → Nat} {ya : Nat} {am : Nat → Nat} {σ : XS} {τ : RS} (hR : RR σ τ) : B_erase l D B adK adV cC cF cI cZ cM cS xa ad ya am σ τ := by
  obtain ⟨⟨n, g1, g2, g3, g4⟩, h2, h3, S, W, h4, h5⟩ := hR
  exact ⟨.int (nI n), _, _, k_erase l D B adK adV cC cF cI cZ cM cS xa ad σ (nI n, 0) (by rw [g2]; rfl), k6_erase l D B adK adV cC cF cI cZ cM cS ya am τ (nI n, 0) (by rw [g3]; rfl), ⟨0, by omega, rfl, rfl, fun j hj => absurd hj (by omega)⟩, h2, h3, S, W, h4, h5⟩
theorem isSt_lo {S : Nat} {i : Int32} (h : i < 0) : f_X5_isState (nI S) i = some 0 ∧ f_X6_isState (nI S) i = some 0 := by
  unfold f_X5_isState f_X6_isState
  rw [if_pos h, in_lo h]
  exact ⟨rfl, rfl⟩
theorem isSt_hi {S : Nat} {i : Int32} (hS : S < 2147483648) (h : nI S ≤ i) : f_X5_isState (nI S) i = some 0 ∧ f_X6_isState (nI S) i = some 0 := by
  unfold f_X5_isState f_X6_isState
  rw [if_neg (ge_neg hS h), if_pos h, in_hi hS h]
  exact ⟨rfl, rfl⟩
theorem isSt_ok {S j : Nat} (hS : S < 2147483648) (h : j < S) : f_X5_isState (nI S) (nI j) = some 1 ∧ f_X6_isState (nI S) (nI j) = some 1 := by
  unfold f_X5_isState f_X6_isState
  rw [if_neg (nneg (by omega)), if_neg (show ¬ nI S ≤ nI j by rw [le_nI (by omega) (by omega)]; omega), in_ok hS h]
  exact ⟨rfl, rfl⟩
theorem o10 : ¬ (1 : Int32) = 0 := by decide
theorem s_value {S W : Nat} {fi : FiT} {mst mwy mmk mwt : Int32} {mvl mof : Nat → Int32} (h : RFi S W fi mst mwy mmk mwt mvl mof) (i k : Int32) : ∃ r, f_X5_value fi.1 fi.2.2.2.2.1 i k = some r ∧ f_X6_value mst mvl i k = some r := by
  obtain ⟨h1, h2, -, -, -, -, h7, h8, -⟩ := h
  have hS := h8.1
  rw [h1, h2]
  unfold f_X5_value f_X6_value f_X5_isLimb
  rw [show f_X6_in k.toInt64 0 3 = f_X6_in k.toInt64 0 (nI 4 - 1).toInt64 from rfl]
  rcases ix_cases i S (by omega) with hi | hi | ⟨a, ha, rfl⟩
  · rw [(isSt_lo hi).1, (isSt_lo hi).2]; exact ⟨_, rfl, rfl⟩
  · rw [(isSt_hi (by omega) hi).1, (isSt_hi (by omega) hi).2]; exact ⟨_, rfl, rfl⟩
  · rw [(isSt_ok (by omega) ha).1, (isSt_ok (by omega) ha).2]
    simp only [Option.bind_some, if_neg o10]
    rcases ix_cases k 4 (by omega) with hk | hk | ⟨c, hc, rfl⟩
    · rw [if_pos hk, in_lo hk]; exact ⟨_, rfl, rfl⟩
    · rw [if_neg (ge_neg (by omega) hk), if_pos (show (4 : Int32) ≤ k from hk), in_hi (by omega) hk]; exact ⟨_, rfl, rfl⟩
    · rw [if_neg (nneg (by omega)), if_neg (show ¬ (4 : Int32) ≤ nI c by show ¬ nI 4 ≤ nI c; rw [le_nI (by omega) (by omega)]; omega), in_ok (by omega) hc]
      simp only [Option.bind_some, if_neg o10]
      simp (disch := omega) only [l4, mu_nI, ad_nI, gd_iok, cl_nI]
      have := (h7 (4 * a + c) (by omega)).1
      rw [show a * 4 + c = 4 * a + c by omega, this]
      exact ⟨_, rfl, rfl⟩
theorem do_value {l : Launch} {D : va_G} {B : Nat} {adK adV : Nat → Nat} {cC cF cI cZ cM cS : ClassId} {xa : Nat} {ad : Nat → Nat} {ya : Nat} {am : Nat → Nat} {σ : XS} {τ : RS} (hR : RR σ τ) (i k : Int32) : B_value l D B adK adV cC cF cI cZ cM cS xa ad ya am i k σ τ := by
  have hR0 := hR
  obtain ⟨h1, h2, h3, S, W, h4, h5⟩ := hR
  obtain ⟨r, e1, e2⟩ := s_value h4 i k
  exact ⟨.int r, _, _, k_value l D B adK adV cC cF cI cZ cM cS xa ad σ i k r e1, k6_value l D B adK adV cC cF cI cZ cM cS ya am τ i k r e2, hR0⟩
theorem s_way {S W : Nat} {fi : FiT} {mst mwy mmk mwt : Int32} {mvl mof : Nat → Int32} (h : RFi S W fi mst mwy mmk mwt mvl mof) (i k : Int32) : ∃ r, f_X5_way fi.2.1 fi.2.2.2.2.2 i k = some r ∧ f_X6_way mwy mof i k = some r := by
  obtain ⟨-, -, h3, h4, -, -, -, h8, h9⟩ := h
  have hW := h8.2.1
  rw [h3, h4]
  unfold f_X5_way f_X6_way
  rw [show f_X6_in k.toInt64 0 6 = f_X6_in k.toInt64 0 (nI 7 - 1).toInt64 from rfl]
  rcases ix_cases i W (by omega) with hi | hi | ⟨a, ha, rfl⟩
  · rw [if_pos hi, in_lo hi]; exact ⟨_, rfl, rfl⟩
  · rw [if_neg (ge_neg (by omega) hi), if_neg (ge_lt (by omega) hi (Nat.le_refl _)), in_hi (by omega) hi]; exact ⟨_, rfl, rfl⟩
  · rw [if_neg (nneg (by omega)), if_pos (show nI a < nI W by rw [lt_nI (by omega) (by omega)]; exact ha), in_ok (by omega) ha]
    simp only [Option.bind_some, if_neg o10]
    rcases ix_cases k 7 (by omega) with hk | hk | ⟨c, hc, rfl⟩
    · rw [if_pos hk, in_lo hk]; exact ⟨_, rfl, rfl⟩
    · rw [if_neg (ge_neg (by omega) hk), if_neg (show ¬ k < 7 from ge_lt (k := 7) (by omega) hk (Nat.le_refl _)), in_hi (by omega) hk]; exact ⟨_, rfl, rfl⟩
    · rw [if_neg (nneg (by omega)), if_pos (show nI c < 7 by show nI c < nI 7; rw [lt_nI (by omega) (by omega)]; omega), in_ok (by omega) hc, p_part (by omega) hc]
      simp only [Option.bind_some, if_neg o10]
      have := h9 a ha c hc
      simp only at this
      simp (disch := omega) only [l8, l6, mu_nI, ad_nI, gd_iok, cl_nI, this, eq_nI]
      by_cases h6 : c = 6
      · simp only [h6, if_true]; exact ⟨_, rfl, rfl⟩
      · simp only [h6, if_false]; exact ⟨_, rfl, by rw [Int32.add_zero]⟩
theorem do_way {l : Launch} {D : va_G} {B : Nat} {adK adV : Nat → Nat} {cC cF cI cZ cM cS : ClassId} {xa : Nat} {ad : Nat → Nat} {ya : Nat} {am : Nat → Nat} {σ : XS} {τ : RS} (hR : RR σ τ) (i k : Int32) : B_way l D B adK adV cC cF cI cZ cM cS xa ad ya am i k σ τ := by
  have hR0 := hR
  obtain ⟨h1, h2, h3, S, W, h4, h5⟩ := hR
  obtain ⟨r, e1, e2⟩ := s_way h4 i k
  exact ⟨.int r, _, _, k_way l D B adK adV cC cF cI cZ cM cS xa ad σ i k r e1, k6_way l D B adK adV cC cF cI cZ cM cS ya am τ i k r e2, hR0⟩
