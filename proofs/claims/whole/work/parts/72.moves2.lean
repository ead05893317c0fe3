/-! ===== pull, undo, keep, back, step ===== -/
theorem trig_eq (t : Int32) (a : Nat) : f_X2_isTriggered t (nI a) = some (bI (decide (((t >>> (nI a &&& 31)) &&& 1) = 1))) := by
  unfold f_X2_isTriggered bI
  by_cases h : ((t >>> (nI a &&& 31)) &&& 1) = 1 <;> simp [h]
theorem isTr_lo {i : Int32} (h : i < 0) : f_X5_isTrigger i = some 0 := by unfold f_X5_isTrigger; rw [if_pos h]
theorem isTr_hi {i : Int32} (h : nI 3 ≤ i) : f_X5_isTrigger i = some 0 := by unfold f_X5_isTrigger; rw [if_neg (ge_neg (by omega) h), if_pos (show (3 : Int32) ≤ i from h)]
theorem isTr_ok {j : Nat} (h : j < 3) : f_X5_isTrigger (nI j) = some 1 := by unfold f_X5_isTrigger; rw [if_neg (nneg (by omega)), if_neg (show ¬ (3 : Int32) ≤ nI j by show ¬ nI 3 ≤ nI j; rw [le_nI (by omega) (by omega)]; omega)]
theorem do_pull {l : Launch} {D : va_G} {B : Nat} {adK adV : Nat → Nat} {cC cF cI cZ cM cS : ClassId} {xa : Nat} {ad : Nat → Nat} {ya : Nat} {am : Nat → Nat} {σ : XS} {τ : RS} (hR : RR σ τ) (i : Int32) : B_pull l D B adK adV cC cF cI cZ cM cS xa ad ya am i σ τ := by
  obtain ⟨tx, told, draft, now, guess, past, stored, ist, np, un, sh⟩ := σ
  obtain ⟨mst, mwy, mmk, mwt, mvl, mof, mw, mf, mun, mik, mtx, mln, mfi, mbe, mrs, mrw, mcl, mdo, mnu, mwd, msz, mso, mpl⟩ := τ
  obtain ⟨h1, h2, h3, S, W, h4, u, p, m, hu, hp, eu, emu, ep, en, hok, hmr, hpa, hkp⟩ := hR
  simp only at h1 h2 h3 h4 eu emu ep en hmr hpa hkp
  subst eu emu ep en
  have hj : ((p + 1) % 8) < 8 := by omega
  have stay : ∀ r : Int32, f_X5_pull (nI p) (nI u) m.2.2.2 (nI m.1.1) (nI m.1.2.1) (bwI m.1.2.2.1) (bfI m.1.2.2.1) (bdI m.1.2.2.1) m.1.2.2.2.1 m.1.2.2.2.2 (nI m.2.1.1) (nI m.2.1.2.1) (bwI m.2.1.2.2.1) (bfI m.2.1.2.2.1) (bdI m.2.1.2.2.1) m.2.1.2.2.2.1 m.2.1.2.2.2.2 m.2.2.1 (fun j => ([(ad 26), (ad 34), (ad 42), (ad 50), (ad 58), (ad 66), (ad 74), (ad 82)] : List Nat)[j]?) (ad (26 + 8 * ((p + 1) % 8))) (past ((p + 1) % 8)).2.2.2 (past ((p + 1) % 8)).1.1 (past ((p + 1) % 8)).1.2.1 (past ((p + 1) % 8)).1.2.2.1 (past ((p + 1) % 8)).1.2.2.2.1 (past ((p + 1) % 8)).1.2.2.2.2.1 (past ((p + 1) % 8)).1.2.2.2.2.2.1 (past ((p + 1) % 8)).1.2.2.2.2.2.2 (past ((p + 1) % 8)).2.1.1 (past ((p + 1) % 8)).2.1.2.1 (past ((p + 1) % 8)).2.1.2.2.1 (past ((p + 1) % 8)).2.1.2.2.2.1 (past ((p + 1) % 8)).2.1.2.2.2.2.1 (past ((p + 1) % 8)).2.1.2.2.2.2.2.1 (past ((p + 1) % 8)).2.1.2.2.2.2.2.2 (past ((p + 1) % 8)).2.2.1 i = some (r, (past ((p + 1) % 8)).1.2.2.2.2.2.1, (past ((p + 1) % 8)).1.2.2.2.2.2.2, (past ((p + 1) % 8)).2.1.2.2.2.2.2.1, (past ((p + 1) % 8)).2.1.2.2.2.2.2.2, (past ((p + 1) % 8)).2.2.1, nI p, nI u, m.2.2.2, (past ((p + 1) % 8)).2.2.2, (past ((p + 1) % 8)).1.1, (past ((p + 1) % 8)).1.2.1, (past ((p + 1) % 8)).1.2.2.1, (past ((p + 1) % 8)).1.2.2.2.1, (past ((p + 1) % 8)).1.2.2.2.2.1, (past ((p + 1) % 8)).2.1.1, (past ((p + 1) % 8)).2.1.2.1, (past ((p + 1) % 8)).2.1.2.2.1, (past ((p + 1) % 8)).2.1.2.2.2.1, (past ((p + 1) % 8)).2.1.2.2.2.2.1) →
      f_X6_pull (nI u) mw mf i = some (r, mw, mf, nI u) → B_pull l D B adK adV cC cF cI cZ cM cS xa ad ya am i (tx, told, draft, moT m, guess, past, stored, ist, nI p, nI u, sh) (mst, mwy, mmk, mwt, mvl, mof, mw, mf, nI u, mik, mtx, mln, mfi, mbe, mrs, mrw, mcl, mdo, mnu, mwd, msz, mso, mpl) := by
    intro r e1 e2
    refine ⟨.int r, _, _, kk_pull l D B adK adV cC cF cI cZ cM cS xa ad (tx, told, draft, moT m, guess, past, stored, ist, nI p, nI u, sh) i _ ((p + 1) % 8) hj e1, k6_pull l D B adK adV cC cF cI cZ cM cS ya am (mst, mwy, mmk, mwt, mvl, mof, mw, mf, nI u, mik, mtx, mln, mfi, mbe, mrs, mrw, mcl, mdo, mnu, mwd, msz, mso, mpl) i (r, mw, mf, nI u) e2, h1, h2, h3, S, W, h4, u, p, m, hu, hp, rfl, rfl, rfl, rfl, hok, hmr, ?_, hkp⟩
    show RPa S W u p (va_up past ((p + 1) % 8) (past ((p + 1) % 8))) mw mf
    rw [up_self]
    exact hpa
  rcases ix_cases i 3 (by omega) with hi | hi | ⟨a, ha, rfl⟩
  · exact stay (-2) (by unfold f_X5_pull; rw [isTr_lo hi]; rfl) (by unfold f_X6_pull; rw [third_lo hi]; rfl)
  · exact stay (-2) (by unfold f_X5_pull; rw [isTr_hi hi]; rfl) (by unfold f_X6_pull; rw [third_hi hi]; rfl)
  · have htr : mw 13 = m.2.2.2 := hmr.2.2.2
    by_cases ht : ((m.2.2.2 >>> (nI a &&& 31)) &&& 1) = 1
    · exact stay (-4) (by
        unfold f_X5_pull
        rw [isTr_ok ha, trig_eq, decide_eq_true ht]
        rfl) (by
        unfold f_X6_pull
        rw [third_ok ha, htr, p6_has, decide_eq_true ht]
        rfl)
    · obtain ⟨mw', mf', q1, q2, q3, q4⟩ := p6_minds (mw := mw) (mf := mf) hu
      have e1 : f_X5_pull (nI p) (nI u) m.2.2.2 (nI m.1.1) (nI m.1.2.1) (bwI m.1.2.2.1) (bfI m.1.2.2.1) (bdI m.1.2.2.1) m.1.2.2.2.1 m.1.2.2.2.2 (nI m.2.1.1) (nI m.2.1.2.1) (bwI m.2.1.2.2.1) (bfI m.2.1.2.2.1) (bdI m.2.1.2.2.1) m.2.1.2.2.2.1 m.2.1.2.2.2.2 m.2.2.1 (fun j => ([(ad 26), (ad 34), (ad 42), (ad 50), (ad 58), (ad 66), (ad 74), (ad 82)] : List Nat)[j]?) (ad (26 + 8 * ((p + 1) % 8))) (past ((p + 1) % 8)).2.2.2 (past ((p + 1) % 8)).1.1 (past ((p + 1) % 8)).1.2.1 (past ((p + 1) % 8)).1.2.2.1 (past ((p + 1) % 8)).1.2.2.2.1 (past ((p + 1) % 8)).1.2.2.2.2.1 (past ((p + 1) % 8)).1.2.2.2.2.2.1 (past ((p + 1) % 8)).1.2.2.2.2.2.2 (past ((p + 1) % 8)).2.1.1 (past ((p + 1) % 8)).2.1.2.1 (past ((p + 1) % 8)).2.1.2.2.1 (past ((p + 1) % 8)).2.1.2.2.2.1 (past ((p + 1) % 8)).2.1.2.2.2.2.1 (past ((p + 1) % 8)).2.1.2.2.2.2.2.1 (past ((p + 1) % 8)).2.1.2.2.2.2.2.2 (past ((p + 1) % 8)).2.2.1 (nI a) = some (1, (oR (cpM (past ((p + 1) % 8)) m) (nI ((p + 1) % 8)) (nI (min (u + 1) 8))).1, (oR (cpM (past ((p + 1) % 8)) m) (nI ((p + 1) % 8)) (nI (min (u + 1) 8))).2.1, (oR (cpM (past ((p + 1) % 8)) m) (nI ((p + 1) % 8)) (nI (min (u + 1) 8))).2.2.1, (oR (cpM (past ((p + 1) % 8)) m) (nI ((p + 1) % 8)) (nI (min (u + 1) 8))).2.2.2.1, (oR (cpM (past ((p + 1) % 8)) m) (nI ((p + 1) % 8)) (nI (min (u + 1) 8))).2.2.2.2.1, nI ((p + 1) % 8), nI (min (u + 1) 8), m.2.2.2 ||| ((1 : Int32) <<< (nI a &&& 31)), (oR (cpM (past ((p + 1) % 8)) m) (nI ((p + 1) % 8)) (nI (min (u + 1) 8))).2.2.2.2.2.2.2) := by
        unfold f_X5_pull
        rw [isTr_ok ha, trig_eq, decide_eq_false ht, p_remember hp hu m (past ((p + 1) % 8)) (pastf _ hj)]
        rfl
      have e2 : f_X6_pull (nI u) mw mf (nI a) = some (1, upd mw' (14 * 0 + 13) (m.2.2.2 ||| ((1 : Int32) <<< (nI a &&& 31))), mf', nI (min (u + 1) 8)) := by
        unfold f_X6_pull
        rw [third_ok ha, htr, p6_has, decide_eq_false ht, q1]
        simp only [Option.bind_some, if_neg o10]
        rw [show mw' 13 = m.2.2.2 from ((q2 0 (by omega)).1 13 (by omega)).trans htr]
        rfl
      refine ⟨.int 1, _, _, kk_pull l D B adK adV cC cF cI cZ cM cS xa ad (tx, told, draft, moT m, guess, past, stored, ist, nI p, nI u, sh) (nI a) _ ((p + 1) % 8) hj e1, k6_pull l D B adK adV cC cF cI cZ cM cS ya am (mst, mwy, mmk, mwt, mvl, mof, mw, mf, nI u, mik, mtx, mln, mfi, mbe, mrs, mrw, mcl, mdo, mnu, mwd, msz, mso, mpl) (nI a) (1, upd mw' (14 * 0 + 13) (m.2.2.2 ||| ((1 : Int32) <<< (nI a &&& 31))), mf', nI (min (u + 1) 8)) e2, h1, h2, h3, S, W, h4, min (u + 1) 8, ((p + 1) % 8), (m.1, m.2.1, m.2.2.1, m.2.2.2 ||| ((1 : Int32) <<< (nI a &&& 31))), by omega, hj, rfl, rfl, rfl, rfl, hok, ?_, ?_, ?_⟩
      · exact MR_trg (MR_row hmr (q2 0 (by omega)))
      · exact RPa_row (RPa_push hu hp hpa hok hmr q3 q4) (fun k hk => SR_upd (by omega))
      · exact RKp_row (RKp_row hkp (fun k hk => q2 _ (by omega))) (fun k hk => SR_upd (by omega))
theorem do_undo {l : Launch} {D : va_G} {B : Nat} {adK adV : Nat → Nat} {cC cF cI cZ cM cS : ClassId} {xa : Nat} {ad : Nat → Nat} {ya : Nat} {am : Nat → Nat} {σ : XS} {τ : RS} (hR : RR σ τ) : B_undo l D B adK adV cC cF cI cZ cM cS xa ad ya am σ τ := by
  obtain ⟨tx, told, draft, now, guess, past, stored, ist, np, un, sh⟩ := σ
  obtain ⟨mst, mwy, mmk, mwt, mvl, mof, mw, mf, mun, mik, mtx, mln, mfi, mbe, mrs, mrw, mcl, mdo, mnu, mwd, msz, mso, mpl⟩ := τ
  obtain ⟨h1, h2, h3, S, W, h4, u, p, m, hu, hp, eu, emu, ep, en, hok, hmr, hpa, hkp⟩ := hR
  simp only at h1 h2 h3 h4 eu emu ep en hmr hpa hkp
  subst eu emu ep en
  by_cases h0 : u = 0
  · subst h0
    have e1 : f_X5_undo (nI p) (nI 0) m.2.2.2 (nI m.1.1) (nI m.1.2.1) (bwI m.1.2.2.1) (bfI m.1.2.2.1) (bdI m.1.2.2.1) m.1.2.2.2.1 m.1.2.2.2.2 (nI m.2.1.1) (nI m.2.1.2.1) (bwI m.2.1.2.2.1) (bfI m.2.1.2.2.1) (bdI m.2.1.2.2.1) m.2.1.2.2.2.1 m.2.1.2.2.2.2 m.2.2.1 (fun j => ([(ad 26), (ad 34), (ad 42), (ad 50), (ad 58), (ad 66), (ad 74), (ad 82)] : List Nat)[j]?) (ad (26 + 8 * p)) (past p).2.2.2 (past p).1.1 (past p).1.2.1 (past p).1.2.2.1 (past p).1.2.2.2.1 (past p).1.2.2.2.2.1 (past p).1.2.2.2.2.2.1 (past p).1.2.2.2.2.2.2 (past p).2.1.1 (past p).2.1.2.1 (past p).2.1.2.2.1 (past p).2.1.2.2.2.1 (past p).2.1.2.2.2.2.1 (past p).2.1.2.2.2.2.2.1 (past p).2.1.2.2.2.2.2.2 (past p).2.2.1 = some (-4, (moT m).1.2.2.2.2.2.1, (moT m).1.2.2.2.2.2.2, (moT m).2.1.2.2.2.2.2.1, (moT m).2.1.2.2.2.2.2.2, (moT m).2.2.1, nI p, nI 0, m.2.2.2, (moT m).1.1, (moT m).1.2.1, (moT m).1.2.2.1, (moT m).1.2.2.2.1, (moT m).1.2.2.2.2.1, (moT m).2.1.1, (moT m).2.1.2.1, (moT m).2.1.2.2.1, (moT m).2.1.2.2.2.1, (moT m).2.1.2.2.2.2.1) := by
      unfold f_X5_undo
      rw [if_pos (show nI 0 = 0 from rfl)]
      rfl
    exact ⟨.int (-4), _, _, kk_undo l D B adK adV cC cF cI cZ cM cS xa ad (tx, told, draft, moT m, guess, past, stored, ist, nI p, nI 0, sh) _ p hp e1, k6_undo l D B adK adV cC cF cI cZ cM cS ya am (mst, mwy, mmk, mwt, mvl, mof, mw, mf, nI 0, mik, mtx, mln, mfi, mbe, mrs, mrw, mcl, mdo, mnu, mwd, msz, mso, mpl) (-4, mw, mf, nI 0) (by unfold f_X6_undo; rw [if_pos (show nI 0 = 0 from rfl)]), h1, h2, h3, S, W, h4, 0, p, m, hu, hp, rfl, rfl, rfl, rfl, hok, hmr, hpa, hkp⟩
  · obtain ⟨m', g1, g2, g3⟩ := hpa (u - 1) (by omega)
    rw [show (p + 8 - (u - 1 - (u - 1))) % 8 = p by omega] at g1
    obtain ⟨mw', mf', c1, c2, c3⟩ := p6_copy (mw := mw) (mf := mf) (r := 4 + (u - 1)) (r' := 0) (by omega) (by omega) (by omega)
    have hun : nI u - 1 = nI (u - 1) := by rw [show (1 : Int32) = nI 1 from rfl, sb_nI (by omega)]
    have hne : ¬ nI u = 0 := by show ¬ nI u = nI 0; rw [eq_nI (by omega) (by omega)]; exact h0
    have e1 : f_X5_undo (nI p) (nI u) m.2.2.2 (nI m.1.1) (nI m.1.2.1) (bwI m.1.2.2.1) (bfI m.1.2.2.1) (bdI m.1.2.2.1) m.1.2.2.2.1 m.1.2.2.2.2 (nI m.2.1.1) (nI m.2.1.2.1) (bwI m.2.1.2.2.1) (bfI m.2.1.2.2.1) (bdI m.2.1.2.2.1) m.2.1.2.2.2.1 m.2.1.2.2.2.2 m.2.2.1 (fun j => ([(ad 26), (ad 34), (ad 42), (ad 50), (ad 58), (ad 66), (ad 74), (ad 82)] : List Nat)[j]?) (ad (26 + 8 * p)) (past p).2.2.2 (past p).1.1 (past p).1.2.1 (past p).1.2.2.1 (past p).1.2.2.2.1 (past p).1.2.2.2.2.1 (past p).1.2.2.2.2.2.1 (past p).1.2.2.2.2.2.2 (past p).2.1.1 (past p).2.1.2.1 (past p).2.1.2.2.1 (past p).2.1.2.2.2.1 (past p).2.1.2.2.2.2.1 (past p).2.1.2.2.2.2.2.1 (past p).2.1.2.2.2.2.2.2 (past p).2.2.1 = some (nI (u - 1), (moT (cpM (moT m) m')).1.2.2.2.2.2.1, (moT (cpM (moT m) m')).1.2.2.2.2.2.2, (moT (cpM (moT m) m')).2.1.2.2.2.2.2.1, (moT (cpM (moT m) m')).2.1.2.2.2.2.2.2, (moT (cpM (moT m) m')).2.2.1, nI ((p + 7) % 8), nI (u - 1), m'.2.2.2, (moT (cpM (moT m) m')).1.1, (moT (cpM (moT m) m')).1.2.1, (moT (cpM (moT m) m')).1.2.2.1, (moT (cpM (moT m) m')).1.2.2.2.1, (moT (cpM (moT m) m')).1.2.2.2.2.1, (moT (cpM (moT m) m')).2.1.1, (moT (cpM (moT m) m')).2.1.2.1, (moT (cpM (moT m) m')).2.1.2.2.1, (moT (cpM (moT m) m')).2.1.2.2.2.1, (moT (cpM (moT m) m')).2.1.2.2.2.2.1) := by
      rw [g1]
      unfold f_X5_undo
      rw [if_neg hne, gd_iok hp (by omega), gd_t (show (fun j => ([(ad 26), (ad 34), (ad 42), (ad 50), (ad 58), (ad 66), (ad 74), (ad 82)] : List Nat)[j]?) (nI p).toNatClampNeg = some (ad (26 + 8 * p)) by rw [cl_nI (by omega)]; exact pastf p hp), hun]
      by_cases hp0 : p = 0
      · subst hp0
        rfl
      · rw [show (p + 7) % 8 = p - 1 by omega, ← sb_nI (show 1 ≤ p by omega)]
        have hpn : ¬ nI p = 0 := by show ¬ nI p = nI 0; rw [eq_nI (by omega) (by omega)]; exact hp0
        show (Option.bind (some _) _) = _
        simp only [Option.bind_some, if_neg hpn]
        rfl
    have e2 : f_X6_undo (nI u) mw mf = some (nI (u - 1), mw', mf', nI (u - 1)) := by
      unfold f_X6_undo
      rw [if_neg hne, hun, l4, ad_nI, show f_X6_copy mw mf (nI (4 + (u - 1))) 0 = f_X6_copy mw mf (nI (4 + (u - 1))) (nI 0) from rfl, c1]
      rfl
    refine ⟨.int (nI (u - 1)), _, _, kk_undo l D B adK adV cC cF cI cZ cM cS xa ad (tx, told, draft, moT m, guess, past, stored, ist, nI p, nI u, sh) _ p hp e1, k6_undo l D B adK adV cC cF cI cZ cM cS ya am (mst, mwy, mmk, mwt, mvl, mof, mw, mf, nI u, mik, mtx, mln, mfi, mbe, mrs, mrw, mcl, mdo, mnu, mwd, msz, mso, mpl) (nI (u - 1), mw', mf', nI (u - 1)) e2, h1, h2, h3, S, W, h4, u - 1, (p + 7) % 8, cpM (moT m) m', by omega, by omega, rfl, rfl, rfl, rfl, cpM_ok g2, ?_, ?_, ?_⟩
    · exact MR_row (cpM_MR g3) c2
    · intro k hk
      obtain ⟨m'', f1, f2, f3⟩ := hpa k (by omega)
      refine ⟨m'', ?_, f2, MR_row f3 (c3 _ (by omega))⟩
      show past (((p + 7) % 8 + 8 - (u - 1 - 1 - k)) % 8) = moT m''
      rw [← f1]
      congr 1
      omega
    · exact RKp_row hkp (fun k hk => c3 _ (by omega))
theorem keptf {ad : Nat → Nat} : ∀ j, j < 2 → (fun j => ([(ad 91), (ad 99)] : List Nat)[j]?) j = some (ad (91 + 8 * j)) := by
  intro j hj
  match j, hj with
  | 0, _ => rfl
  | 1, _ => rfl
theorem isKp_lo {i : Int32} (h : i < 0) : f_X5_isKeeping i = some 0 ∧ f_X6_in i.toInt64 0 1 = some 0 := by
  unfold f_X5_isKeeping
  rw [if_pos h, show f_X6_in i.toInt64 0 1 = f_X6_in i.toInt64 0 (nI 2 - 1).toInt64 from rfl, in_lo h]
  exact ⟨rfl, rfl⟩
theorem isKp_hi {i : Int32} (h : nI 2 ≤ i) : f_X5_isKeeping i = some 0 ∧ f_X6_in i.toInt64 0 1 = some 0 := by
  unfold f_X5_isKeeping
  rw [if_neg (ge_neg (by omega) h), if_pos (show (2 : Int32) ≤ i from h), show f_X6_in i.toInt64 0 1 = f_X6_in i.toInt64 0 (nI 2 - 1).toInt64 from rfl, in_hi (by omega) h]
  exact ⟨rfl, rfl⟩
theorem isKp_ok {j : Nat} (h : j < 2) : f_X5_isKeeping (nI j) = some 1 ∧ f_X6_in (nI j).toInt64 0 1 = some 1 := by
  unfold f_X5_isKeeping
  rw [if_neg (nneg (by omega)), if_neg (show ¬ (2 : Int32) ≤ nI j by show ¬ nI 2 ≤ nI j; rw [le_nI (by omega) (by omega)]; omega), show f_X6_in (nI j).toInt64 0 1 = f_X6_in (nI j).toInt64 0 (nI 2 - 1).toInt64 from rfl, in_ok (by omega) h]
  exact ⟨rfl, rfl⟩
theorem lowS {S a : Nat} {mw : Nat → Int32} (h : mw 0 = nI a) : ∃ r, f_X5_lowerState (nI S) (nI a) = some r ∧ f_X6_stateNow (nI S) mw = some r := by
  unfold f_X5_lowerState f_X6_stateNow
  rw [h]
  exact ⟨_, (apply_ite some _ _ _).symm, (apply_ite some _ _ _).symm⟩
theorem nar_b1 : vp_nar .boolean 1 = 1 := by decide
theorem do_keep {l : Launch} {D : va_G} {B : Nat} {adK adV : Nat → Nat} {cC cF cI cZ cM cS : ClassId} {xa : Nat} {ad : Nat → Nat} {ya : Nat} {am : Nat → Nat} {σ : XS} {τ : RS} (hR : RR σ τ) (k : Int32) : B_keep l D B adK adV cC cF cI cZ cM cS xa ad ya am k σ τ := by
  obtain ⟨tx, told, draft, now, guess, past, stored, ist, np, un, sh⟩ := σ
  obtain ⟨mst, mwy, mmk, mwt, mvl, mof, mw, mf, mun, mik, mtx, mln, mfi, mbe, mrs, mrw, mcl, mdo, mnu, mwd, msz, mso, mpl⟩ := τ
  obtain ⟨h1, h2, h3, S, W, h4, u, p, m, hu, hp, eu, emu, ep, en, hok, hmr, hpa, hkp⟩ := hR
  simp only at h1 h2 h3 h4 eu emu ep en hmr hpa hkp
  subst eu emu ep en
  obtain ⟨tst, twy, tmk, twt, tvl, tpt⟩ := told
  have h4' := h4
  obtain ⟨f1, f2, -⟩ := h4
  simp only at f1
  subst f1 f2
  have stay : f_X5_keep (nI S) m.2.2.2 (nI m.1.1) (nI m.1.2.1) (bwI m.1.2.2.1) (bfI m.1.2.2.1) (bdI m.1.2.2.1) m.1.2.2.2.1 m.1.2.2.2.2 (nI m.2.1.1) (nI m.2.1.2.1) (bwI m.2.1.2.2.1) (bfI m.2.1.2.2.1) (bdI m.2.1.2.2.1) m.2.1.2.2.2.1 m.2.1.2.2.2.2 m.2.2.1 (fun j => ([(ad 91), (ad 99)] : List Nat)[j]?) (ad (91 + 8 * 0)) (stored 0).2.2.2 (stored 0).1.1 (stored 0).1.2.1 (stored 0).1.2.2.1 (stored 0).1.2.2.2.1 (stored 0).1.2.2.2.2.1 (stored 0).1.2.2.2.2.2.1 (stored 0).1.2.2.2.2.2.2 (stored 0).2.1.1 (stored 0).2.1.2.1 (stored 0).2.1.2.2.1 (stored 0).2.1.2.2.2.1 (stored 0).2.1.2.2.2.2.1 (stored 0).2.1.2.2.2.2.2.1 (stored 0).2.1.2.2.2.2.2.2 (stored 0).2.2.1 ist k = some (-2, (stored 0).1.2.2.2.2.2.1, (stored 0).1.2.2.2.2.2.2, (stored 0).2.1.2.2.2.2.2.1, (stored 0).2.1.2.2.2.2.2.2, (stored 0).2.2.1, ist, (stored 0).2.2.2, (stored 0).1.1, (stored 0).1.2.1, (stored 0).1.2.2.1, (stored 0).1.2.2.2.1, (stored 0).1.2.2.2.2.1, (stored 0).2.1.1, (stored 0).2.1.2.1, (stored 0).2.1.2.2.1, (stored 0).2.1.2.2.2.1, (stored 0).2.1.2.2.2.2.1) →
      f_X6_keep (nI S) mw mf mik k = some (-2, mw, mf, mik) → B_keep l D B adK adV cC cF cI cZ cM cS xa ad ya am k (tx, (nI S, twy, tmk, twt, tvl, tpt), draft, moT m, guess, past, stored, ist, nI p, nI u, sh) (nI S, mwy, mmk, mwt, mvl, mof, mw, mf, nI u, mik, mtx, mln, mfi, mbe, mrs, mrw, mcl, mdo, mnu, mwd, msz, mso, mpl) := by
    intro e1 e2
    refine ⟨.int (-2), _, _, kk_keep l D B adK adV cC cF cI cZ cM cS xa ad (tx, (nI S, twy, tmk, twt, tvl, tpt), draft, moT m, guess, past, stored, ist, nI p, nI u, sh) k _ 0 (by omega) e1, k6_keep l D B adK adV cC cF cI cZ cM cS ya am (nI S, mwy, mmk, mwt, mvl, mof, mw, mf, nI u, mik, mtx, mln, mfi, mbe, mrs, mrw, mcl, mdo, mnu, mwd, msz, mso, mpl) k (-2, mw, mf, mik) e2, h1, h2, h3, S, W, h4', u, p, m, hu, hp, rfl, rfl, rfl, rfl, hok, hmr, hpa, ?_⟩
    show RKp S W (va_up stored 0 (stored 0)) ist mik mw mf
    rw [up_self]
    exact hkp
  rcases ix_cases k 2 (by omega) with hi | hi | ⟨a, ha, rfl⟩
  · exact stay (by unfold f_X5_keep; rw [(isKp_lo hi).1]; rfl) (by unfold f_X6_keep; rw [(isKp_lo hi).2]; rfl)
  · exact stay (by unfold f_X5_keep; rw [(isKp_hi hi).1]; rfl) (by unfold f_X6_keep; rw [(isKp_hi hi).2]; rfl)
  · obtain ⟨mw', mf', c1, c2, c3⟩ := p6_copy (mw := mw) (mf := mf) (r := 0) (r' := 2 + a) (by omega) (by omega) (by omega)
    obtain ⟨r, g1, g2⟩ := lowS (S := S) (a := m.1.1) (mw := mw') (((c3 0 (by omega)).1 0 (by omega)).trans hmr.1.1)
    have e1 : f_X5_keep (nI S) m.2.2.2 (nI m.1.1) (nI m.1.2.1) (bwI m.1.2.2.1) (bfI m.1.2.2.1) (bdI m.1.2.2.1) m.1.2.2.2.1 m.1.2.2.2.2 (nI m.2.1.1) (nI m.2.1.2.1) (bwI m.2.1.2.2.1) (bfI m.2.1.2.2.1) (bdI m.2.1.2.2.1) m.2.1.2.2.2.1 m.2.1.2.2.2.2 m.2.2.1 (fun j => ([(ad 91), (ad 99)] : List Nat)[j]?) (ad (91 + 8 * a)) (stored a).2.2.2 (stored a).1.1 (stored a).1.2.1 (stored a).1.2.2.1 (stored a).1.2.2.2.1 (stored a).1.2.2.2.2.1 (stored a).1.2.2.2.2.2.1 (stored a).1.2.2.2.2.2.2 (stored a).2.1.1 (stored a).2.1.2.1 (stored a).2.1.2.2.1 (stored a).2.1.2.2.2.1 (stored a).2.1.2.2.2.2.1 (stored a).2.1.2.2.2.2.2.1 (stored a).2.1.2.2.2.2.2.2 (stored a).2.2.1 ist (nI a) = some (r, (moT (cpM (stored a) m)).1.2.2.2.2.2.1, (moT (cpM (stored a) m)).1.2.2.2.2.2.2, (moT (cpM (stored a) m)).2.1.2.2.2.2.2.1, (moT (cpM (stored a) m)).2.1.2.2.2.2.2.2, (moT (cpM (stored a) m)).2.2.1, upd ist a 1, m.2.2.2, (moT (cpM (stored a) m)).1.1, (moT (cpM (stored a) m)).1.2.1, (moT (cpM (stored a) m)).1.2.2.1, (moT (cpM (stored a) m)).1.2.2.2.1, (moT (cpM (stored a) m)).1.2.2.2.2.1, (moT (cpM (stored a) m)).2.1.1, (moT (cpM (stored a) m)).2.1.2.1, (moT (cpM (stored a) m)).2.1.2.2.1, (moT (cpM (stored a) m)).2.1.2.2.2.1, (moT (cpM (stored a) m)).2.1.2.2.2.2.1) := by
      unfold f_X5_keep
      rw [(isKp_ok ha).1]
      simp only [Option.bind_some, if_neg o10]
      rw [gd_iok ha (by omega), gd_t (show (fun j => ([(ad 91), (ad 99)] : List Nat)[j]?) (nI a).toNatClampNeg = some (ad (91 + 8 * a)) by rw [cl_nI (by omega)]; exact keptf a ha)]
      show (Option.bind (some _) _) = _
      simp only [Option.bind_some]
      rw [gd_iok ha (by omega), g1, nar_b1, cl_nI (by omega)]
      rfl
    have e2 : f_X6_keep (nI S) mw mf mik (nI a) = some (r, mw', mf', upd mik a 1) := by
      unfold f_X6_keep
      rw [(isKp_ok ha).2]
      simp only [Option.bind_some, if_neg o10]
      rw [l2, ad_nI, show f_X6_copy mw mf 0 (nI (2 + a)) = f_X6_copy mw mf (nI 0) (nI (2 + a)) from rfl, c1]
      simp only [Option.bind_some]
      rw [gd_iok ha (by omega), g2, nar_b1, cl_nI (by omega)]
      rfl
    refine ⟨.int r, _, _, kk_keep l D B adK adV cC cF cI cZ cM cS xa ad (tx, (nI S, twy, tmk, twt, tvl, tpt), draft, moT m, guess, past, stored, ist, nI p, nI u, sh) (nI a) _ a ha e1, k6_keep l D B adK adV cC cF cI cZ cM cS ya am (nI S, mwy, mmk, mwt, mvl, mof, mw, mf, nI u, mik, mtx, mln, mfi, mbe, mrs, mrw, mcl, mdo, mnu, mwd, msz, mso, mpl) (nI a) (r, mw', mf', upd mik a 1) e2, h1, h2, h3, S, W, h4', u, p, m, hu, hp, rfl, rfl, rfl, rfl, hok, MR_row hmr (c3 0 (by omega)), RPa_row hpa (fun k hk => c3 _ (by omega)), ?_⟩
    intro k hk
    show (upd ist a 1 k = 0 ∧ upd mik a 1 k = 0) ∨ (upd ist a 1 k = 1 ∧ upd mik a 1 k = 1 ∧ ∃ m' : AM, va_up stored a (moT (cpM (stored a) m)) k = moT m' ∧ MOK S W m' ∧ MR m' mw' mf' (2 + k))
    by_cases hka : k = a
    · subst hka
      rw [upd_s, upd_s, up_s]
      exact Or.inr ⟨rfl, rfl, cpM (stored k) m, rfl, cpM_ok hok, MR_row (cpM_MR hmr) c2⟩
    · rw [upd_n hka, upd_n hka, up_n hka]
      rcases hkp k hk with e | ⟨x1, x2, m', x3, x4, x5⟩
      · exact Or.inl e
      · exact Or.inr ⟨x1, x2, m', x3, x4, MR_row x5 (c3 _ (by omega))⟩
theorem do_back {l : Launch} {D : va_G} {B : Nat} {adK adV : Nat → Nat} {cC cF cI cZ cM cS : ClassId} {xa : Nat} {ad : Nat → Nat} {ya : Nat} {am : Nat → Nat} {σ : XS} {τ : RS} (hR : RR σ τ) (k : Int32) : B_back l D B adK adV cC cF cI cZ cM cS xa ad ya am k σ τ := by
  obtain ⟨tx, told, draft, now, guess, past, stored, ist, np, un, sh⟩ := σ
  obtain ⟨mst, mwy, mmk, mwt, mvl, mof, mw, mf, mun, mik, mtx, mln, mfi, mbe, mrs, mrw, mcl, mdo, mnu, mwd, msz, mso, mpl⟩ := τ
  obtain ⟨h1, h2, h3, S, W, h4, u, p, m, hu, hp, eu, emu, ep, en, hok, hmr, hpa, hkp⟩ := hR
  simp only at h1 h2 h3 h4 eu emu ep en hmr hpa hkp
  subst eu emu ep en
  obtain ⟨tst, twy, tmk, twt, tvl, tpt⟩ := told
  have h4' := h4
  obtain ⟨f1, f2, -⟩ := h4
  simp only at f1
  subst f1 f2
  have stay : ∀ (r : Int32) (j : Nat) (hj : j < 2), f_X5_back (nI u) (nI S) m.2.2.2 (nI m.1.1) (nI m.1.2.1) (bwI m.1.2.2.1) (bfI m.1.2.2.1) (bdI m.1.2.2.1) m.1.2.2.2.1 m.1.2.2.2.2 (nI m.2.1.1) (nI m.2.1.2.1) (bwI m.2.1.2.2.1) (bfI m.2.1.2.2.1) (bdI m.2.1.2.2.1) m.2.1.2.2.2.1 m.2.1.2.2.2.2 m.2.2.1 (fun j => ([(ad 91), (ad 99)] : List Nat)[j]?) (ad (91 + 8 * j)) (stored j).2.2.2 (stored j).1.1 (stored j).1.2.1 (stored j).1.2.2.1 (stored j).1.2.2.2.1 (stored j).1.2.2.2.2.1 (stored j).1.2.2.2.2.2.1 (stored j).1.2.2.2.2.2.2 (stored j).2.1.1 (stored j).2.1.2.1 (stored j).2.1.2.2.1 (stored j).2.1.2.2.2.1 (stored j).2.1.2.2.2.2.1 (stored j).2.1.2.2.2.2.2.1 (stored j).2.1.2.2.2.2.2.2 (stored j).2.2.1 ist k = some (r, (moT m).1.2.2.2.2.2.1, (moT m).1.2.2.2.2.2.2, (moT m).2.1.2.2.2.2.2.1, (moT m).2.1.2.2.2.2.2.2, (moT m).2.2.1, nI u, m.2.2.2, (moT m).1.1, (moT m).1.2.1, (moT m).1.2.2.1, (moT m).1.2.2.2.1, (moT m).1.2.2.2.2.1, (moT m).2.1.1, (moT m).2.1.2.1, (moT m).2.1.2.2.1, (moT m).2.1.2.2.2.1, (moT m).2.1.2.2.2.2.1) →
      f_X6_back (nI S) (nI u) mw mf mik k = some (r, mw, mf, nI u) → B_back l D B adK adV cC cF cI cZ cM cS xa ad ya am k (tx, (nI S, twy, tmk, twt, tvl, tpt), draft, moT m, guess, past, stored, ist, nI p, nI u, sh) (nI S, mwy, mmk, mwt, mvl, mof, mw, mf, nI u, mik, mtx, mln, mfi, mbe, mrs, mrw, mcl, mdo, mnu, mwd, msz, mso, mpl) := by
    intro r j hj e1 e2
    exact ⟨.int r, _, _, kk_back l D B adK adV cC cF cI cZ cM cS xa ad (tx, (nI S, twy, tmk, twt, tvl, tpt), draft, moT m, guess, past, stored, ist, nI p, nI u, sh) k _ j hj e1, k6_back l D B adK adV cC cF cI cZ cM cS ya am (nI S, mwy, mmk, mwt, mvl, mof, mw, mf, nI u, mik, mtx, mln, mfi, mbe, mrs, mrw, mcl, mdo, mnu, mwd, msz, mso, mpl) k (r, mw, mf, nI u) e2, h1, h2, h3, S, W, h4', u, p, m, hu, hp, rfl, rfl, rfl, rfl, hok, hmr, hpa, hkp⟩
  rcases ix_cases k 2 (by omega) with hi | hi | ⟨a, ha, rfl⟩
  · exact stay (-2) 0 (by omega) (by unfold f_X5_back; rw [(isKp_lo hi).1]; rfl) (by unfold f_X6_back; rw [(isKp_lo hi).2]; rfl)
  · exact stay (-2) 0 (by omega) (by unfold f_X5_back; rw [(isKp_hi hi).1]; rfl) (by unfold f_X6_back; rw [(isKp_hi hi).2]; rfl)
  · rcases hkp a ha with ⟨x1, x2⟩ | ⟨x1, x2, m', x3, x4, x5⟩
    · exact stay (-4) a ha (by
        unfold f_X5_back
        rw [(isKp_ok ha).1]
        simp only [Option.bind_some, if_neg o10]
        rw [gd_iok ha (by omega), if_pos (show ist (nI a).toNatClampNeg = 0 by rw [cl_nI (by omega)]; exact x1)]
        rfl) (by
        unfold f_X6_back
        rw [(isKp_ok ha).2]
        simp only [Option.bind_some, if_neg o10]
        rw [gd_iok ha (by omega), if_pos (show mik (nI a).toNatClampNeg = 0 by rw [cl_nI (by omega)]; exact x2)])
    · obtain ⟨mw', mf', c1, c2, c3⟩ := p6_copy (mw := mw) (mf := mf) (r := 2 + a) (r' := 0) (by omega) (by omega) (by omega)
      have hm' := MR_row (cpM_MR (d := moT m) x5) c2
      obtain ⟨r, g1, g2⟩ := lowS (S := S) (a := m'.1.1) (mw := mw') hm'.1.1
      have e1 : f_X5_back (nI u) (nI S) m.2.2.2 (nI m.1.1) (nI m.1.2.1) (bwI m.1.2.2.1) (bfI m.1.2.2.1) (bdI m.1.2.2.1) m.1.2.2.2.1 m.1.2.2.2.2 (nI m.2.1.1) (nI m.2.1.2.1) (bwI m.2.1.2.2.1) (bfI m.2.1.2.2.1) (bdI m.2.1.2.2.1) m.2.1.2.2.2.1 m.2.1.2.2.2.2 m.2.2.1 (fun j => ([(ad 91), (ad 99)] : List Nat)[j]?) (ad (91 + 8 * a)) (stored a).2.2.2 (stored a).1.1 (stored a).1.2.1 (stored a).1.2.2.1 (stored a).1.2.2.2.1 (stored a).1.2.2.2.2.1 (stored a).1.2.2.2.2.2.1 (stored a).1.2.2.2.2.2.2 (stored a).2.1.1 (stored a).2.1.2.1 (stored a).2.1.2.2.1 (stored a).2.1.2.2.2.1 (stored a).2.1.2.2.2.2.1 (stored a).2.1.2.2.2.2.2.1 (stored a).2.1.2.2.2.2.2.2 (stored a).2.2.1 ist (nI a) = some (r, (moT (cpM (moT m) m')).1.2.2.2.2.2.1, (moT (cpM (moT m) m')).1.2.2.2.2.2.2, (moT (cpM (moT m) m')).2.1.2.2.2.2.2.1, (moT (cpM (moT m) m')).2.1.2.2.2.2.2.2, (moT (cpM (moT m) m')).2.2.1, nI 0, m'.2.2.2, (moT (cpM (moT m) m')).1.1, (moT (cpM (moT m) m')).1.2.1, (moT (cpM (moT m) m')).1.2.2.1, (moT (cpM (moT m) m')).1.2.2.2.1, (moT (cpM (moT m) m')).1.2.2.2.2.1, (moT (cpM (moT m) m')).2.1.1, (moT (cpM (moT m) m')).2.1.2.1, (moT (cpM (moT m) m')).2.1.2.2.1, (moT (cpM (moT m) m')).2.1.2.2.2.1, (moT (cpM (moT m) m')).2.1.2.2.2.2.1) := by
        rw [x3]
        unfold f_X5_back
        rw [(isKp_ok ha).1]
        simp only [Option.bind_some, if_neg o10]
        rw [gd_iok ha (by omega), if_neg (show ¬ ist (nI a).toNatClampNeg = 0 by rw [cl_nI (by omega), x1]; exact o10), gd_iok ha (by omega), gd_t (show (fun j => ([(ad 91), (ad 99)] : List Nat)[j]?) (nI a).toNatClampNeg = some (ad (91 + 8 * a)) by rw [cl_nI (by omega)]; exact keptf a ha)]
        show (Option.bind (some _) _) = _
        simp only [Option.bind_some]
        rw [show f_X5_lowerState (nI S) (moT m').1.1 = some r from g1]
        rfl
      have e2 : f_X6_back (nI S) (nI u) mw mf mik (nI a) = some (r, mw', mf', nI 0) := by
        unfold f_X6_back
        rw [(isKp_ok ha).2]
        simp only [Option.bind_some, if_neg o10]
        rw [gd_iok ha (by omega), if_neg (show ¬ mik (nI a).toNatClampNeg = 0 by rw [cl_nI (by omega), x2]; exact o10), l2, ad_nI, show f_X6_copy mw mf (nI (2 + a)) 0 = f_X6_copy mw mf (nI (2 + a)) (nI 0) from rfl, c1]
        simp only [Option.bind_some]
        rw [g2]
        rfl
      exact ⟨.int r, _, _, kk_back l D B adK adV cC cF cI cZ cM cS xa ad (tx, (nI S, twy, tmk, twt, tvl, tpt), draft, moT m, guess, past, stored, ist, nI p, nI u, sh) (nI a) _ a ha e1, k6_back l D B adK adV cC cF cI cZ cM cS ya am (nI S, mwy, mmk, mwt, mvl, mof, mw, mf, nI u, mik, mtx, mln, mfi, mbe, mrs, mrw, mcl, mdo, mnu, mwd, msz, mso, mpl) (nI a) (r, mw', mf', nI 0) e2, h1, h2, h3, S, W, h4', 0, p, cpM (moT m) m', by omega, hp, rfl, rfl, rfl, rfl, cpM_ok x4, hm', fun k hk => absurd hk (by omega), RKp_row hkp (fun k hk => c3 _ (by omega))⟩
