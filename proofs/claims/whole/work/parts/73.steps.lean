/-! ===== step, until, pulled, layer ===== -/
def mit (pw : Nat → Nat → Int32) (W : Nat) : Nat → AM → AM
  | 0, m => m
  | k + 1, m => mit pw W k (mstep pw W m)
theorem mit_nm (pw : Nat → Nat → Int32) (W : Nat) : ∀ (k : Nat) (m : AM), (mit pw W k m).2.2.1 = m.2.2.1 := by
  intro k
  induction k with
  | zero => intro m; rfl
  | succ k ih => intro m; exact (ih (mstep pw W m)).trans rfl
theorem mit_ok {S W : Nat} {pw : Nat → Nat → Int32} (hF : FigOK S W pw) : ∀ (k : Nat) (m : AM), MOK S W m → MOK S W (mit pw W k m) := by
  intro k
  induction k with
  | zero => intro m h; exact h
  | succ k ih => intro m h; exact ih _ (mstep_ok hF h)
theorem p_step_L {S W c : Nat} {pt nm : Nat → Int32} (hc : c < 100) (hF : FigOK S W (fun w k => pt (w * 7 + k))) : ∀ (k n x : Nat) (m : AM), k = c - x → x ≤ c → k < n → MOK S W m → m.2.2.1 = nm →
    f_X5_step_L33 (nI c) nm (nI W) pt n (nI x) m.2.2.2 (nI m.1.1) (nI m.1.2.1) (bwI m.1.2.2.1) (bfI m.1.2.2.1) (bdI m.1.2.2.1) m.1.2.2.2.1 m.1.2.2.2.2 (nI m.2.1.1) (nI m.2.1.2.1) (bwI m.2.1.2.2.1) (bfI m.2.1.2.2.1) (bdI m.2.1.2.2.1) m.2.1.2.2.2.1 m.2.1.2.2.2.2 = some (nI c, (mit (fun w k => pt (w * 7 + k)) W k m).2.2.2, nI (mit (fun w k => pt (w * 7 + k)) W k m).1.1, nI (mit (fun w k => pt (w * 7 + k)) W k m).1.2.1, bwI (mit (fun w k => pt (w * 7 + k)) W k m).1.2.2.1, bfI (mit (fun w k => pt (w * 7 + k)) W k m).1.2.2.1, bdI (mit (fun w k => pt (w * 7 + k)) W k m).1.2.2.1, (mit (fun w k => pt (w * 7 + k)) W k m).1.2.2.2.1, (mit (fun w k => pt (w * 7 + k)) W k m).1.2.2.2.2, nI (mit (fun w k => pt (w * 7 + k)) W k m).2.1.1, nI (mit (fun w k => pt (w * 7 + k)) W k m).2.1.2.1, bwI (mit (fun w k => pt (w * 7 + k)) W k m).2.1.2.2.1, bfI (mit (fun w k => pt (w * 7 + k)) W k m).2.1.2.2.1, bdI (mit (fun w k => pt (w * 7 + k)) W k m).2.1.2.2.1, (mit (fun w k => pt (w * 7 + k)) W k m).2.1.2.2.2.1, (mit (fun w k => pt (w * 7 + k)) W k m).2.1.2.2.2.2) := by
  intro k
  induction k with
  | zero =>
    intro n x m hk hx hn ho hm
    obtain ⟨n, rfl⟩ : ∃ q, n = q + 1 := ⟨n - 1, by omega⟩
    have : x = c := by omega
    subst this
    unfold f_X5_step_L33
    rw [if_pos (Int32.le_refl _)]
    rfl
  | succ k ih =>
    intro n x m hk hx hn ho hm
    obtain ⟨n, rfl⟩ : ∃ q, n = q + 1 := ⟨n - 1, by omega⟩
    unfold f_X5_step_L33
    rw [if_neg (show ¬ nI c ≤ nI x by rw [le_nI (by omega) (by omega)]; omega)]
    subst hm
    rw [p_mgoOn hF ho, ad1]
    exact ih n (x + 1) (mstep (fun w k => pt (w * 7 + k)) W m) (by omega) (by omega) (by omega) (mstep_ok hF ho) rfl
theorem p6_step_L {S W c : Nat} {pw : Nat → Nat → Int32} {mof : Nat → Int32} (hc : c < 100) (hF : FigOK S W pw) (hW : WR W pw mof) : ∀ (k n x : Nat) (m : AM) (mw : Nat → Int32) (mf : Nat → UInt32), k = c - x → x ≤ c → k < n → MOK S W m → MR m mw mf 0 →
    ∃ mw' mf', f_X6_step_L31 (nI c) (nI W) mof n (nI x) mw mf = some (nI c, mw', mf') ∧ MR (mit pw W k m) mw' mf' 0 ∧ ∀ q, q ≠ 0 → SR mw mw' mf mf' q q := by
  intro k
  induction k with
  | zero =>
    intro n x m mw mf hk hx hn ho hm
    obtain ⟨n, rfl⟩ : ∃ q, n = q + 1 := ⟨n - 1, by omega⟩
    have : x = c := by omega
    subst this
    unfold f_X6_step_L31
    rw [if_pos (Int32.le_refl _)]
    exact ⟨mw, mf, rfl, hm, fun q _ => SR.rf⟩
  | succ k ih =>
    intro n x m mw mf hk hx hn ho hm
    obtain ⟨n, rfl⟩ : ∃ q, n = q + 1 := ⟨n - 1, by omega⟩
    obtain ⟨mw1, mf1, a1, a2, a3⟩ := p6_frame hF hW (show 0 < 12 by omega) ho hm
    obtain ⟨mw2, mf2, b1, b2, b3⟩ := ih n (x + 1) (mstep pw W m) mw1 mf1 (by omega) (by omega) (by omega) (mstep_ok hF ho) a2
    unfold f_X6_step_L31
    rw [if_neg (show ¬ nI c ≤ nI x by rw [le_nI (by omega) (by omega)]; omega), show f_X6_frame (nI W) mof mw mf 0 = f_X6_frame (nI W) mof mw mf (nI 0) from rfl, a1, ad1]
    exact ⟨mw2, mf2, b1, b2, fun q hq => (a3 q hq).tr (b3 q hq)⟩
theorem in_1_99 (v : Int32) : f_X6_in v.toInt64 1 99 = some (bI (decide ((1 : Int32) ≤ v) && decide (v ≤ 99))) := by
  rw [show f_X6_in v.toInt64 1 99 = f_X6_in v.toInt64 (1 : Int32).toInt64 (99 : Int32).toInt64 from rfl, q6_in]
theorem do_step {l : Launch} {D : va_G} {B : Nat} {adK adV : Nat → Nat} {cC cF cI cZ cM cS : ClassId} {xa : Nat} {ad : Nat → Nat} {ya : Nat} {am : Nat → Nat} {σ : XS} {τ : RS} (hR : RR σ τ) (cnt : Int32) : B_step l D B adK adV cC cF cI cZ cM cS xa ad ya am cnt σ τ := by
  obtain ⟨tx, told, draft, now, guess, past, stored, ist, np, un, sh⟩ := σ
  obtain ⟨mst, mwy, mmk, mwt, mvl, mof, mw, mf, mun, mik, mtx, mln, mfi, mbe, mrs, mrw, mcl, mdo, mnu, mwd, msz, mso, mpl⟩ := τ
  obtain ⟨h1, h2, h3, S, W, h4, u, p, m, hu, hp, eu, emu, ep, en, hok, hmr, hpa, hkp⟩ := hR
  simp only at h1 h2 h3 h4 eu emu ep en hmr hpa hkp
  subst eu emu ep en
  obtain ⟨tst, twy, tmk, twt, tvl, tpt⟩ := told
  have h4' := h4
  obtain ⟨f1, f2, f3, f4, -, -, -, f8, f9⟩ := h4
  simp only at f1 f3 f8 f9
  subst f1 f2 f3 f4
  have hj : ((p + 1) % 8) < 8 := by omega
  have stay : ∀ r : Int32, f_X5_step (nI p) (nI u) (nI S) (nI W) tpt m.2.2.2 (nI m.1.1) (nI m.1.2.1) (bwI m.1.2.2.1) (bfI m.1.2.2.1) (bdI m.1.2.2.1) m.1.2.2.2.1 m.1.2.2.2.2 (nI m.2.1.1) (nI m.2.1.2.1) (bwI m.2.1.2.2.1) (bfI m.2.1.2.2.1) (bdI m.2.1.2.2.1) m.2.1.2.2.2.1 m.2.1.2.2.2.2 m.2.2.1 (fun j => ([(ad 26), (ad 34), (ad 42), (ad 50), (ad 58), (ad 66), (ad 74), (ad 82)] : List Nat)[j]?) (ad (26 + 8 * ((p + 1) % 8))) (past ((p + 1) % 8)).2.2.2 (past ((p + 1) % 8)).1.1 (past ((p + 1) % 8)).1.2.1 (past ((p + 1) % 8)).1.2.2.1 (past ((p + 1) % 8)).1.2.2.2.1 (past ((p + 1) % 8)).1.2.2.2.2.1 (past ((p + 1) % 8)).1.2.2.2.2.2.1 (past ((p + 1) % 8)).1.2.2.2.2.2.2 (past ((p + 1) % 8)).2.1.1 (past ((p + 1) % 8)).2.1.2.1 (past ((p + 1) % 8)).2.1.2.2.1 (past ((p + 1) % 8)).2.1.2.2.2.1 (past ((p + 1) % 8)).2.1.2.2.2.2.1 (past ((p + 1) % 8)).2.1.2.2.2.2.2.1 (past ((p + 1) % 8)).2.1.2.2.2.2.2.2 (past ((p + 1) % 8)).2.2.1 cnt = some (r, m.1.2.2.2.1, m.1.2.2.2.2, m.2.1.2.2.2.1, m.2.1.2.2.2.2, (past ((p + 1) % 8)).1.2.2.2.2.2.1, (past ((p + 1) % 8)).1.2.2.2.2.2.2, (past ((p + 1) % 8)).2.1.2.2.2.2.2.1, (past ((p + 1) % 8)).2.1.2.2.2.2.2.2, (past ((p + 1) % 8)).2.2.1, nI p, nI u, m.2.2.2, (moT m).1.1, (moT m).1.2.1, (moT m).1.2.2.1, (moT m).1.2.2.2.1, (moT m).1.2.2.2.2.1, (moT m).2.1.1, (moT m).2.1.2.1, (moT m).2.1.2.2.1, (moT m).2.1.2.2.2.1, (moT m).2.1.2.2.2.2.1, (past ((p + 1) % 8)).2.2.2, (past ((p + 1) % 8)).1.1, (past ((p + 1) % 8)).1.2.1, (past ((p + 1) % 8)).1.2.2.1, (past ((p + 1) % 8)).1.2.2.2.1, (past ((p + 1) % 8)).1.2.2.2.2.1, (past ((p + 1) % 8)).2.1.1, (past ((p + 1) % 8)).2.1.2.1, (past ((p + 1) % 8)).2.1.2.2.1, (past ((p + 1) % 8)).2.1.2.2.2.1, (past ((p + 1) % 8)).2.1.2.2.2.2.1) →
      f_X6_step (nI S) (nI W) (nI u) mof mw mf cnt = some (r, mw, mf, nI u) → B_step l D B adK adV cC cF cI cZ cM cS xa ad ya am cnt (tx, (nI S, nI W, tmk, twt, tvl, tpt), draft, moT m, guess, past, stored, ist, nI p, nI u, sh) (nI S, nI W, mmk, mwt, mvl, mof, mw, mf, nI u, mik, mtx, mln, mfi, mbe, mrs, mrw, mcl, mdo, mnu, mwd, msz, mso, mpl) := by
    intro r e1 e2
    refine ⟨.int r, _, _, kk_step l D B adK adV cC cF cI cZ cM cS xa ad (tx, (nI S, nI W, tmk, twt, tvl, tpt), draft, moT m, guess, past, stored, ist, nI p, nI u, sh) cnt _ ((p + 1) % 8) hj e1, k6_step l D B adK adV cC cF cI cZ cM cS ya am (nI S, nI W, mmk, mwt, mvl, mof, mw, mf, nI u, mik, mtx, mln, mfi, mbe, mrs, mrw, mcl, mdo, mnu, mwd, msz, mso, mpl) cnt (r, mw, mf, nI u) e2, h1, h2, h3, S, W, h4', u, p, m, hu, hp, rfl, rfl, rfl, rfl, hok, hmr, ?_, hkp⟩
    show RPa S W u p (va_up past ((p + 1) % 8) (past ((p + 1) % 8))) mw mf
    rw [up_self]
    exact hpa
  by_cases v1 : cnt < 1
  · exact stay (-3) (by unfold f_X5_step; rw [if_pos v1]; rfl) (by
      unfold f_X6_step
      rw [in_1_99, decide_eq_false (show ¬ (1 : Int32) ≤ cnt from fun z => (nlt_le.mpr z) v1)]
      rfl)
  · by_cases v2 : cnt ≤ 99
    · have e6 : f_X6_in cnt.toInt64 1 99 = some 1 := by rw [in_1_99, decide_eq_true (nlt_le.mp v1), decide_eq_true v2]; rfl
      by_cases hS : S = 0
      · subst hS
        exact stay (-4) (by unfold f_X5_step; rw [if_neg v1, if_pos v2, if_pos (show nI 0 = 0 from rfl)]; rfl) (by
          unfold f_X6_step
          rw [e6]
          rfl)
      · obtain ⟨c, hc, rfl⟩ : ∃ c, c < 100 ∧ cnt = nI c := by
          rcases ix_cases cnt 100 (by omega) with hi | hi | ⟨a, ha, he⟩
          · exact absurd (show cnt < 1 by rw [toInt_lt] at hi ⊢; rw [ti0] at hi; rw [show (1 : Int32).toInt = 1 from by decide]; omega) v1
          · exact absurd v2 (ge_le (k := 99) (by omega) hi (by omega))
          · exact ⟨a, ha, he⟩
        have hSn : ¬ nI S = 0 := by show ¬ nI S = nI 0; rw [eq_nI (by have := f8.1; omega) (by omega)]; exact hS
        obtain ⟨mw', mf', q1, q2, q3, q4⟩ := p6_minds (mw := mw) (mf := mf) hu
        obtain ⟨mw2, mf2, b1, b2, b3⟩ := p6_step_L hc f8 f9 c 1000 0 m mw' mf' (by omega) (by omega) (by omega) hok (MR_row hmr (q2 0 (by omega)))
        have e1 : f_X5_step (nI p) (nI u) (nI S) (nI W) tpt m.2.2.2 (nI m.1.1) (nI m.1.2.1) (bwI m.1.2.2.1) (bfI m.1.2.2.1) (bdI m.1.2.2.1) m.1.2.2.2.1 m.1.2.2.2.2 (nI m.2.1.1) (nI m.2.1.2.1) (bwI m.2.1.2.2.1) (bfI m.2.1.2.2.1) (bdI m.2.1.2.2.1) m.2.1.2.2.2.1 m.2.1.2.2.2.2 m.2.2.1 (fun j => ([(ad 26), (ad 34), (ad 42), (ad 50), (ad 58), (ad 66), (ad 74), (ad 82)] : List Nat)[j]?) (ad (26 + 8 * ((p + 1) % 8))) (past ((p + 1) % 8)).2.2.2 (past ((p + 1) % 8)).1.1 (past ((p + 1) % 8)).1.2.1 (past ((p + 1) % 8)).1.2.2.1 (past ((p + 1) % 8)).1.2.2.2.1 (past ((p + 1) % 8)).1.2.2.2.2.1 (past ((p + 1) % 8)).1.2.2.2.2.2.1 (past ((p + 1) % 8)).1.2.2.2.2.2.2 (past ((p + 1) % 8)).2.1.1 (past ((p + 1) % 8)).2.1.2.1 (past ((p + 1) % 8)).2.1.2.2.1 (past ((p + 1) % 8)).2.1.2.2.2.1 (past ((p + 1) % 8)).2.1.2.2.2.2.1 (past ((p + 1) % 8)).2.1.2.2.2.2.2.1 (past ((p + 1) % 8)).2.1.2.2.2.2.2.2 (past ((p + 1) % 8)).2.2.1 (nI c) = some (nI (mit (fun w k => tpt (w * 7 + k)) W c m).1.1, (mit (fun w k => tpt (w * 7 + k)) W c m).1.2.2.2.1, (mit (fun w k => tpt (w * 7 + k)) W c m).1.2.2.2.2, (mit (fun w k => tpt (w * 7 + k)) W c m).2.1.2.2.2.1, (mit (fun w k => tpt (w * 7 + k)) W c m).2.1.2.2.2.2, (oR (cpM (past ((p + 1) % 8)) m) (nI ((p + 1) % 8)) (nI (min (u + 1) 8))).1, (oR (cpM (past ((p + 1) % 8)) m) (nI ((p + 1) % 8)) (nI (min (u + 1) 8))).2.1, (oR (cpM (past ((p + 1) % 8)) m) (nI ((p + 1) % 8)) (nI (min (u + 1) 8))).2.2.1, (oR (cpM (past ((p + 1) % 8)) m) (nI ((p + 1) % 8)) (nI (min (u + 1) 8))).2.2.2.1, (oR (cpM (past ((p + 1) % 8)) m) (nI ((p + 1) % 8)) (nI (min (u + 1) 8))).2.2.2.2.1, nI ((p + 1) % 8), nI (min (u + 1) 8), (mit (fun w k => tpt (w * 7 + k)) W c m).2.2.2, (moT (mit (fun w k => tpt (w * 7 + k)) W c m)).1.1, (moT (mit (fun w k => tpt (w * 7 + k)) W c m)).1.2.1, (moT (mit (fun w k => tpt (w * 7 + k)) W c m)).1.2.2.1, (moT (mit (fun w k => tpt (w * 7 + k)) W c m)).1.2.2.2.1, (moT (mit (fun w k => tpt (w * 7 + k)) W c m)).1.2.2.2.2.1, (moT (mit (fun w k => tpt (w * 7 + k)) W c m)).2.1.1, (moT (mit (fun w k => tpt (w * 7 + k)) W c m)).2.1.2.1, (moT (mit (fun w k => tpt (w * 7 + k)) W c m)).2.1.2.2.1, (moT (mit (fun w k => tpt (w * 7 + k)) W c m)).2.1.2.2.2.1, (moT (mit (fun w k => tpt (w * 7 + k)) W c m)).2.1.2.2.2.2.1, (oR (cpM (past ((p + 1) % 8)) m) (nI ((p + 1) % 8)) (nI (min (u + 1) 8))).2.2.2.2.2.2.2) := by
          unfold f_X5_step
          rw [if_neg v1, if_pos v2, if_neg hSn, p_remember hp hu m (past ((p + 1) % 8)) (pastf _ hj)]
          show (Option.bind (f_X5_step_L33 (nI c) m.2.2.1 (nI W) tpt 1000 (nI 0) m.2.2.2 (nI m.1.1) (nI m.1.2.1) (bwI m.1.2.2.1) (bfI m.1.2.2.1) (bdI m.1.2.2.1) m.1.2.2.2.1 m.1.2.2.2.2 (nI m.2.1.1) (nI m.2.1.2.1) (bwI m.2.1.2.2.1) (bfI m.2.1.2.2.1) (bdI m.2.1.2.2.1) m.2.1.2.2.2.1 m.2.1.2.2.2.2) _) = _
          rw [p_step_L hc f8 c 1000 0 m (by omega) (by omega) (by omega) hok rfl]
          rfl
        have e2 : f_X6_step (nI S) (nI W) (nI u) mof mw mf (nI c) = some (nI (mit (fun w k => tpt (w * 7 + k)) W c m).1.1, mw2, mf2, nI (min (u + 1) 8)) := by
          unfold f_X6_step
          rw [e6]
          simp only [Option.bind_some, if_neg o10]
          rw [if_neg hSn, q1]
          simp only [Option.bind_some]
          rw [show f_X6_step_L31 (nI c) (nI W) mof 1000 0 mw' mf' = f_X6_step_L31 (nI c) (nI W) mof 1000 (nI 0) mw' mf' from rfl, b1]
          simp only [Option.bind_some]
          rw [show mw2 0 = nI (mit (fun w k => tpt (w * 7 + k)) W c m).1.1 from b2.1.1]
        refine ⟨.int (nI (mit (fun w k => tpt (w * 7 + k)) W c m).1.1), _, _, kk_step l D B adK adV cC cF cI cZ cM cS xa ad (tx, (nI S, nI W, tmk, twt, tvl, tpt), draft, moT m, guess, past, stored, ist, nI p, nI u, sh) (nI c) _ ((p + 1) % 8) hj e1, k6_step l D B adK adV cC cF cI cZ cM cS ya am (nI S, nI W, mmk, mwt, mvl, mof, mw, mf, nI u, mik, mtx, mln, mfi, mbe, mrs, mrw, mcl, mdo, mnu, mwd, msz, mso, mpl) (nI c) (nI (mit (fun w k => tpt (w * 7 + k)) W c m).1.1, mw2, mf2, nI (min (u + 1) 8)) e2, h1, h2, h3, S, W, h4', min (u + 1) 8, ((p + 1) % 8), (mit (fun w k => tpt (w * 7 + k)) W c m), by omega, hj, rfl, rfl, rfl, ?_, mit_ok f8 c m hok, b2, ?_, ?_⟩
        · show (laT (mit (fun w k => tpt (w * 7 + k)) W c m).1, laT (mit (fun w k => tpt (w * 7 + k)) W c m).2.1, m.2.2.1, (mit (fun w k => tpt (w * 7 + k)) W c m).2.2.2) = moT (mit (fun w k => tpt (w * 7 + k)) W c m)
          rw [← mit_nm (fun w k => tpt (w * 7 + k)) W c m]
          rfl
        · exact RPa_row (RPa_push hu hp hpa hok hmr q3 q4) (fun k hk => b3 _ (by omega))
        · exact RKp_row (RKp_row hkp (fun k hk => q2 _ (by omega))) (fun k hk => b3 _ (by omega))
    · exact stay (-3) (by unfold f_X5_step; rw [if_neg v1, if_neg v2]; rfl) (by
        unfold f_X6_step
        rw [in_1_99, decide_eq_false v2, Bool.and_false]
        rfl)
