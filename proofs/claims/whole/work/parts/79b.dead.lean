/-! ===== dead: the ways out of a state ===== -/
theorem bit_is : ∀ s, s < 6 → ∀ a, a < 6 → ((((((1 : Int32) <<< (nI s &&& 31)) >>> (nI a &&& 31)) &&& 1) = 1) ↔ a = s) := by decide +kernel
theorem s_next_L {S W s : Nat} {pt mof : Nat → Int32} (hF : FigOK S W (fun w k => pt (w * 7 + k))) (hW : WR W (fun w k => pt (w * 7 + k)) mof) (hs : s < 6) : ∀ (k n n' w : Nat) (acc : Int32), k = W - w → w ≤ W → k < n → k < n' →
    ∃ r q, f_X0_stepsFrom_L4 (nI W) pt ((1 : Int32) <<< (nI s &&& 31)) n (nI w) acc = some r ∧ f_X6_nextOf_L4 (nI W) mof (nI s) n' (nI w) acc = some (q, r) := by
  obtain ⟨hS6, hW12, hways⟩ := hF
  intro k
  induction k with
  | zero =>
    intro n n' w acc hk hw hn hn'
    obtain ⟨n, rfl⟩ : ∃ m, n = m + 1 := ⟨n - 1, by omega⟩
    obtain ⟨n', rfl⟩ : ∃ m, n' = m + 1 := ⟨n' - 1, by omega⟩
    have : w = W := by omega
    subst this
    unfold f_X0_stepsFrom_L4 f_X6_nextOf_L4
    rw [if_pos (Int32.le_refl _), if_pos (Int32.le_refl _)]
    exact ⟨_, _, rfl, rfl⟩
  | succ k ih =>
    intro n n' w acc hk hw hn hn'
    obtain ⟨n, rfl⟩ : ∃ m, n = m + 1 := ⟨n - 1, by omega⟩
    obtain ⟨n', rfl⟩ : ∃ m, n' = m + 1 := ⟨n' - 1, by omega⟩
    obtain ⟨⟨a, e0, ha⟩, ⟨b, e1, hb⟩, -⟩ := hways w (by omega)
    have g0 := hW w (by omega) 0 (by omega)
    have g1 := hW w (by omega) 1 (by omega)
    simp only at e0 e1 g0 g1
    have I := fun acc => ih n n' (w + 1) acc (by omega) (by omega) (by omega) (by omega)
    unfold f_X0_stepsFrom_L4 f_X6_nextOf_L4
    rw [if_neg (show ¬ nI W ≤ nI w by rw [le_nI (by omega) (by omega)]; omega), if_neg (show ¬ nI W ≤ nI w by rw [le_nI (by omega) (by omega)]; omega)]
    rw [show f_X0_part pt (nI w) 0 = f_X0_part pt (nI w) (nI 0) from rfl, show f_X0_part pt (nI w) 1 = f_X0_part pt (nI w) (nI 1) from rfl, p_part (by omega) (by omega), p_part (by omega) (by omega)]
    simp (disch := omega) only [l8, mu_nI, ad_nI, ad0, ad1, cl_nI, gd_iok, Option.bind_some]
    rw [show mof (8 * w) = nI a from by rw [← e0]; exact g0, show mof (8 * w + 1) = nI b from by rw [← e1]; exact g1, e0, e1]
    simp (disch := omega) only [l9, eq_nI, Int32.or_zero]
    by_cases h9 : a = 9
    · simp only [h9, if_true]
      by_cases hs9 : 9 = s
      · omega
      · simp only [hs9, if_false]
        exact I _
    · simp only [h9, if_false]
      have hbit := bit_is s hs a (by omega)
      by_cases has : a = s
      · simp only [has, if_true]
        rw [if_pos (by rw [← has] at hbit ⊢; exact hbit.mpr rfl)]
        exact I _
      · simp only [has, if_false]
        rw [if_neg (fun z => has (hbit.mp z))]
        exact I _
theorem s_next {S W s : Nat} {pt mof : Nat → Int32} (hF : FigOK S W (fun w k => pt (w * 7 + k))) (hW : WR W (fun w k => pt (w * 7 + k)) mof) (hs : s < 6) : ∃ r, f_X0_stepsFrom (nI W) pt ((1 : Int32) <<< (nI s &&& 31)) = some r ∧ f_X6_nextOf (nI W) mof (nI s) = some r := by
  have h12 := hF.2.1
  obtain ⟨r, q, e1, e2⟩ := s_next_L hF hW hs W 20 1000 0 0 (by omega) (by omega) (by omega) (by omega)
  refine ⟨r, e1, ?_⟩
  unfold f_X6_nextOf
  rw [show f_X6_nextOf_L4 (nI W) mof (nI s) 1000 0 0 = f_X6_nextOf_L4 (nI W) mof (nI s) 1000 (nI 0) 0 from rfl, e2]
  rfl
theorem s_dead_L {S W : Nat} {pt mof : Nat → Int32} (hF : FigOK S W (fun w k => pt (w * 7 + k))) (hW : WR W (fun w k => pt (w * 7 + k)) mof) : ∀ (k n n' x : Nat) (acc : Int32), k = S - x → x ≤ S → k < n → k < n' → ∃ r q q', f_X5_dead_L17 (nI S) (nI W) pt n (nI x) acc = some (q, r) ∧ f_X6_dead_L14 (nI S) (nI W) mof n' (nI x) acc = some (q', r) := by
  have hS6 := hF.1
  intro k
  induction k with
  | zero =>
    intro n n' x acc hk hx hn hn'
    obtain ⟨n, rfl⟩ : ∃ m, n = m + 1 := ⟨n - 1, by omega⟩
    obtain ⟨n', rfl⟩ : ∃ m, n' = m + 1 := ⟨n' - 1, by omega⟩
    have : x = S := by omega
    subst this
    unfold f_X5_dead_L17 f_X6_dead_L14
    rw [if_pos (Int32.le_refl _), if_pos (Int32.le_refl _)]
    exact ⟨_, _, _, rfl, rfl⟩
  | succ k ih =>
    intro n n' x acc hk hx hn hn'
    obtain ⟨n, rfl⟩ : ∃ m, n = m + 1 := ⟨n - 1, by omega⟩
    obtain ⟨n', rfl⟩ : ∃ m, n' = m + 1 := ⟨n' - 1, by omega⟩
    obtain ⟨r, e1, e2⟩ := s_next hF hW (show x < 6 by omega)
    have I := fun acc => ih n n' (x + 1) acc (by omega) (by omega) (by omega) (by omega)
    unfold f_X5_dead_L17 f_X6_dead_L14
    rw [if_neg (show ¬ nI S ≤ nI x by rw [le_nI (by omega) (by omega)]; omega), if_neg (show ¬ nI S ≤ nI x by rw [le_nI (by omega) (by omega)]; omega), e1, e2]
    simp only [Option.bind_some, ad1, Int32.or_zero]
    by_cases h : (r &&& (((1 : Int32) <<< (nI x &&& 31)) ^^^ (-1))) = 0
    · rw [if_pos h, if_pos h]; exact I _
    · rw [if_neg h, if_neg h]; exact I _
theorem do_dead {l : Launch} {D : va_G} {B : Nat} {adK adV : Nat → Nat} {cC cF cI cZ cM cS : ClassId} {xa : Nat} {ad : Nat → Nat} {ya : Nat} {am : Nat → Nat} {σ : XS} {τ : RS} (hR : RR σ τ) : B_dead l D B adK adV cC cF cI cZ cM cS xa ad ya am σ τ := by
  have hR0 := hR
  obtain ⟨h1, h2, h3, S, W, ⟨f1, f2, f3, f4, -, -, -, f8, f9⟩, h5⟩ := hR
  have key : ∃ r, f_X5_dead σ.2.1.1 σ.2.1.2.1 σ.2.1.2.2.2.2.2 = some r ∧ f_X6_dead τ.1 τ.2.1 τ.2.2.2.2.2.1 = some r := by
    rw [f1, f2, f3, f4]
    unfold f_X5_dead f_X6_dead
    by_cases h0 : nI S = 0
    · rw [if_pos h0, if_pos h0]; exact ⟨_, rfl, rfl⟩
    · have hS := f8.1
      obtain ⟨r, q, q', e1, e2⟩ := s_dead_L f8 f9 S 1000 1000 0 0 (by omega) (by omega) (by omega) (by omega)
      rw [if_neg h0, if_neg h0, show ∀ pt, f_X5_dead_L17 (nI S) (nI W) pt 1000 0 0 = f_X5_dead_L17 (nI S) (nI W) pt 1000 (nI 0) 0 from fun _ => rfl, show ∀ mof, f_X6_dead_L14 (nI S) (nI W) mof 1000 0 0 = f_X6_dead_L14 (nI S) (nI W) mof 1000 (nI 0) 0 from fun _ => rfl, e1, e2]
      exact ⟨r, rfl, rfl⟩
  obtain ⟨r, e1, e2⟩ := key
  exact ⟨.int r, _, _, k_dead l D B adK adV cC cF cI cZ cM cS xa ad σ r e1, k6_dead l D B adK adV cC cF cI cZ cM cS ya am τ r e2, hR0⟩
