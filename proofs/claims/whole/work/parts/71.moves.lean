/-! ===== the calls that move: remember, set, pull, undo, keep, back ===== -/
theorem up_s {α : Type} (f : Nat → α) (j : Nat) (v : α) : va_up f j v j = v := by simp [va_up]
theorem up_n {α : Type} {f : Nat → α} {i j : Nat} {v : α} (h : i ≠ j) : va_up f j v i = f i := by simp [va_up, h]
theorem up_self {α : Type} (f : Nat → α) (j : Nat) : va_up f j (f j) = f := by
  funext i
  by_cases h : i = j
  · subst h; exact up_s _ _ _
  · exact up_n h
def oR (c : AM) (np un : Int32) : (Nat → UInt32) × (Nat → UInt32) × (Nat → UInt32) × (Nat → UInt32) × (Nat → Int32) × Int32 × Int32 × Int32 × Int32 × Int32 × Int32 × Int32 × Int32 × Int32 × Int32 × Int32 × Int32 × Int32 := (c.1.2.2.2.1, c.1.2.2.2.2, c.2.1.2.2.2.1, c.2.1.2.2.2.2, c.2.2.1, np, un, c.2.2.2, nI c.1.1, nI c.1.2.1, bwI c.1.2.2.1, bfI c.1.2.2.1, bdI c.1.2.2.1, nI c.2.1.1, nI c.2.1.2.1, bwI c.2.1.2.2.1, bfI c.2.1.2.2.1, bdI c.2.1.2.2.1)
theorem unI {u : Nat} (h : u ≤ 8) : (if 8 < nI u + 1 then (8 : Int32) else nI u + 1) = nI (min (u + 1) 8) := by
  rw [ad1]
  by_cases h1 : 8 < u + 1
  · rw [if_pos (show (8 : Int32) < nI (u + 1) by show nI 8 < nI (u + 1); rw [lt_nI (by omega) (by omega)]; exact h1), show min (u + 1) 8 = 8 by omega]
    rfl
  · rw [if_neg (show ¬ (8 : Int32) < nI (u + 1) by show ¬ nI 8 < nI (u + 1); rw [lt_nI (by omega) (by omega)]; exact h1), show min (u + 1) 8 = u + 1 by omega]
theorem p_remember {p u : Nat} (hp : p < 8) (hu : u ≤ 8) (m : AM) (d : MoT) {pf : Nat → Option Nat} {pa : Nat} (hpf : pf ((p + 1) % 8) = some pa) :
    f_X5_remember (nI p) (nI u) m.2.2.2 (nI m.1.1) (nI m.1.2.1) (bwI m.1.2.2.1) (bfI m.1.2.2.1) (bdI m.1.2.2.1) m.1.2.2.2.1 m.1.2.2.2.2 (nI m.2.1.1) (nI m.2.1.2.1) (bwI m.2.1.2.2.1) (bfI m.2.1.2.2.1) (bdI m.2.1.2.2.1) m.2.1.2.2.2.1 m.2.1.2.2.2.2 m.2.2.1 pf pa d.1.2.2.2.2.2.1 d.1.2.2.2.2.2.2 d.2.1.2.2.2.2.2.1 d.2.1.2.2.2.2.2.2 d.2.2.1 = some (oR (cpM d m) (nI ((p + 1) % 8)) (nI (min (u + 1) 8))) := by
  unfold f_X5_remember
  rw [unI hu]
  by_cases h7 : p = 7
  · subst h7
    rw [if_pos (show nI 7 = 7 from rfl), gd_t (show iok 0 8 from iok_nI (k := 0) (by omega) (by omega)), gd_t (show pf ((0 : Int32).toNatClampNeg) = some pa from hpf)]
    rfl
  · rw [if_neg (show ¬ nI p = 7 by show ¬ nI p = nI 7; rw [eq_nI (by omega) (by omega)]; exact h7), ad1, gd_iok (by omega) (by omega), gd_t (show pf ((nI (p + 1)).toNatClampNeg) = some pa by rw [cl_nI (by omega), ← hpf]; congr 1; omega), show (p + 1) % 8 = p + 1 by omega]
    rfl
theorem RPa_push {S W u p : Nat} {past : Nat → MoT} {mw mw' : Nat → Int32} {mf mf' : Nat → UInt32} {m : AM} {d : MoT} (hu : u ≤ 8) (hp : p < 8) (h : RPa S W u p past mw mf) (hok : MOK S W m) (hm : MR m mw mf 0)
    (h0 : SR mw mw' mf mf' 0 (4 + (min (u + 1) 8 - 1))) (hk : ∀ k, k < min (u + 1) 8 - 1 → SR mw mw' mf mf' (4 + k + (u + 1 - min (u + 1) 8)) (4 + k)) :
    RPa S W (min (u + 1) 8) ((p + 1) % 8) (va_up past ((p + 1) % 8) (moT (cpM d m))) mw' mf' := by
  intro k hkk
  by_cases hlast : k = min (u + 1) 8 - 1
  · refine ⟨cpM d m, ?_, cpM_ok hok, ?_⟩
    · rw [show ((p + 1) % 8 + 8 - (min (u + 1) 8 - 1 - k)) % 8 = (p + 1) % 8 by omega, up_s]
    · rw [hlast]; exact MR_row (cpM_MR hm) h0
  · obtain ⟨m', e1, e2, e3⟩ := h (k + (u + 1 - min (u + 1) 8)) (by omega)
    refine ⟨m', ?_, e2, ?_⟩
    · rw [up_n (by omega), ← e1]
      congr 1
      omega
    · exact MR_row e3 (by rw [← Nat.add_assoc]; exact hk k (by omega))
theorem RPa_row {S W u p : Nat} {past : Nat → MoT} {mw mw' : Nat → Int32} {mf mf' : Nat → UInt32} (h : RPa S W u p past mw mf) (hs : ∀ k, k < u → SR mw mw' mf mf' (4 + k) (4 + k)) : RPa S W u p past mw' mf' := by
  intro k hk
  obtain ⟨m, e1, e2, e3⟩ := h k hk
  exact ⟨m, e1, e2, MR_row e3 (hs k hk)⟩
theorem RKp_row {S W : Nat} {stored : Nat → MoT} {ist mik mw mw' : Nat → Int32} {mf mf' : Nat → UInt32} (h : RKp S W stored ist mik mw mf) (hs : ∀ k, k < 2 → SR mw mw' mf mf' (2 + k) (2 + k)) : RKp S W stored ist mik mw' mf' := by
  intro k hk
  rcases h k hk with e | ⟨e1, e2, m, e3, e4, e5⟩
  · exact Or.inl e
  · exact Or.inr ⟨e1, e2, m, e3, e4, MR_row e5 (hs k hk)⟩
theorem LR_upd {x : AL} {mw : Nat → Int32} {mf : Nat → UInt32} {r l q : Nat} {v : Int32} (h : LR x mw mf r l) (hq : ¬ (14 * r + 5 * l ≤ q ∧ q < 14 * r + 5 * l + 5)) : LR x (upd mw q v) mf r l := by
  obtain ⟨x1, x2, x3, x4, x5, x6, x7⟩ := h
  refine ⟨?_, ?_, ?_, ?_, ?_, x6, x7⟩
  · rw [upd_n (by omega)]; exact x1
  · rw [upd_n (by omega)]; exact x2
  · rw [upd_n (by omega)]; exact x3
  · rw [upd_n (by omega)]; exact x4
  · rw [upd_n (by omega)]; exact x5
theorem MR_num {m : AM} {mw : Nat → Int32} {mf : Nat → UInt32} {r k0 : Nat} {v : Int32} (h : MR m mw mf r) (hk : k0 < 3) : MR (m.1, m.2.1, upd m.2.2.1 k0 v, m.2.2.2) (upd mw (14 * r + 10 + k0) v) mf r := by
  obtain ⟨h1, h2, h3⟩ := h
  refine ⟨LR_upd h1 (by omega), LR_upd h2 (by omega), fun k hk => ?_, ?_⟩
  · show upd mw (14 * r + 10 + k0) v (14 * r + 10 + k) = upd m.2.2.1 k0 v k
    by_cases h : k = k0
    · subst h; rw [upd_s, upd_s]
    · rw [upd_n h, upd_n (by omega)]; exact h3.1 k hk
  · rw [upd_n (by omega)]; exact h3.2
theorem MR_trg {m : AM} {mw : Nat → Int32} {mf : Nat → UInt32} {r : Nat} {v : Int32} (h : MR m mw mf r) : MR (m.1, m.2.1, m.2.2.1, v) (upd mw (14 * r + 13) v) mf r := by
  obtain ⟨h1, h2, h3⟩ := h
  refine ⟨LR_upd h1 (by omega), LR_upd h2 (by omega), fun k hk => ?_, upd_s⟩
  rw [upd_n (by omega)]; exact h3.1 k hk
theorem SR_upd {mw : Nat → Int32} {mf : Nat → UInt32} {r q : Nat} {v : Int32} (h : ¬ (14 * r ≤ q ∧ q < 14 * r + 14)) : SR mw (upd mw q v) mf mf r r := ⟨fun j hj => upd_n (by omega), fun _ _ => rfl⟩
theorem third_lo {i : Int32} (h : i < 0) : f_X6_isThird i = some 0 := by
  unfold f_X6_isThird
  rw [show f_X6_in i.toInt64 0 2 = f_X6_in i.toInt64 0 (nI 3 - 1).toInt64 from rfl, in_lo h]
  rfl
theorem third_hi {i : Int32} (h : nI 3 ≤ i) : f_X6_isThird i = some 0 := by
  unfold f_X6_isThird
  rw [show f_X6_in i.toInt64 0 2 = f_X6_in i.toInt64 0 (nI 3 - 1).toInt64 from rfl, in_hi (by omega) h]
  rfl
theorem third_ok {j : Nat} (h : j < 3) : f_X6_isThird (nI j) = some 1 := by
  unfold f_X6_isThird
  rw [show f_X6_in (nI j).toInt64 0 2 = f_X6_in (nI j).toInt64 0 (nI 3 - 1).toInt64 from rfl, in_ok (by omega) h]
  rfl
theorem pastf {ad : Nat → Nat} : ∀ j, j < 8 → (fun j => ([(ad 26), (ad 34), (ad 42), (ad 50), (ad 58), (ad 66), (ad 74), (ad 82)] : List Nat)[j]?) j = some (ad (26 + 8 * j)) := by
  intro j hj
  match j, hj with
  | 0, _ => rfl
  | 1, _ => rfl
  | 2, _ => rfl
  | 3, _ => rfl
  | 4, _ => rfl
  | 5, _ => rfl
  | 6, _ => rfl
  | 7, _ => rfl
theorem nlt_le {x y : Int32} : ¬ x < y ↔ y ≤ x := by rw [toInt_lt, toInt_le]; omega
theorem in_99 (v : Int32) : f_X6_in v.toInt64 (-99) 99 = some (bI (decide ((-99 : Int32) ≤ v) && decide (v ≤ 99))) := by
  rw [show f_X6_in v.toInt64 (-99) 99 = f_X6_in v.toInt64 (-99 : Int32).toInt64 (99 : Int32).toInt64 from rfl, q6_in]
theorem do_set {l : Launch} {D : va_G} {B : Nat} {adK adV : Nat → Nat} {cC cF cI cZ cM cS : ClassId} {xa : Nat} {ad : Nat → Nat} {ya : Nat} {am : Nat → Nat} {σ : XS} {τ : RS} (hR : RR σ τ) (i v : Int32) : B_set l D B adK adV cC cF cI cZ cM cS xa ad ya am i v σ τ := by
  obtain ⟨tx, told, draft, now, guess, past, stored, ist, np, un, sh⟩ := σ
  obtain ⟨mst, mwy, mmk, mwt, mvl, mof, mw, mf, mun, mik, mtx, mln, mfi, mbe, mrs, mrw, mcl, mdo, mnu, mwd, msz, mso, mpl⟩ := τ
  obtain ⟨h1, h2, h3, S, W, h4, u, p, m, hu, hp, eu, emu, ep, en, hok, hmr, hpa, hkp⟩ := hR
  simp only at h1 h2 h3 h4 eu emu ep en hmr hpa hkp
  subst eu emu ep en
  have hj : (p + 1) % 8 < 8 := by omega
  -- the refusals leave all as it is
  have stay : ∀ r : Int32, f_X5_set (nI p) (nI u) m.2.2.2 (nI m.1.1) (nI m.1.2.1) (bwI m.1.2.2.1) (bfI m.1.2.2.1) (bdI m.1.2.2.1) m.1.2.2.2.1 m.1.2.2.2.2 (nI m.2.1.1) (nI m.2.1.2.1) (bwI m.2.1.2.2.1) (bfI m.2.1.2.2.1) (bdI m.2.1.2.2.1) m.2.1.2.2.2.1 m.2.1.2.2.2.2 m.2.2.1 (fun j => ([(ad 26), (ad 34), (ad 42), (ad 50), (ad 58), (ad 66), (ad 74), (ad 82)] : List Nat)[j]?) (ad (26 + 8 * ((p + 1) % 8))) (past ((p + 1) % 8)).2.2.2 (past ((p + 1) % 8)).1.1 (past ((p + 1) % 8)).1.2.1 (past ((p + 1) % 8)).1.2.2.1 (past ((p + 1) % 8)).1.2.2.2.1 (past ((p + 1) % 8)).1.2.2.2.2.1 (past ((p + 1) % 8)).1.2.2.2.2.2.1 (past ((p + 1) % 8)).1.2.2.2.2.2.2 (past ((p + 1) % 8)).2.1.1 (past ((p + 1) % 8)).2.1.2.1 (past ((p + 1) % 8)).2.1.2.2.1 (past ((p + 1) % 8)).2.1.2.2.2.1 (past ((p + 1) % 8)).2.1.2.2.2.2.1 (past ((p + 1) % 8)).2.1.2.2.2.2.2.1 (past ((p + 1) % 8)).2.1.2.2.2.2.2.2 (past ((p + 1) % 8)).2.2.1 i v = some (r, m.2.2.1, (past ((p + 1) % 8)).1.2.2.2.2.2.1, (past ((p + 1) % 8)).1.2.2.2.2.2.2, (past ((p + 1) % 8)).2.1.2.2.2.2.2.1, (past ((p + 1) % 8)).2.1.2.2.2.2.2.2, (past ((p + 1) % 8)).2.2.1, nI p, nI u, (past ((p + 1) % 8)).2.2.2, (past ((p + 1) % 8)).1.1, (past ((p + 1) % 8)).1.2.1, (past ((p + 1) % 8)).1.2.2.1, (past ((p + 1) % 8)).1.2.2.2.1, (past ((p + 1) % 8)).1.2.2.2.2.1, (past ((p + 1) % 8)).2.1.1, (past ((p + 1) % 8)).2.1.2.1, (past ((p + 1) % 8)).2.1.2.2.1, (past ((p + 1) % 8)).2.1.2.2.2.1, (past ((p + 1) % 8)).2.1.2.2.2.2.1) →
      f_X6_set (nI u) mw mf i v = some (r, mw, mf, nI u) → B_set l D B adK adV cC cF cI cZ cM cS xa ad ya am i v (tx, told, draft, moT m, guess, past, stored, ist, nI p, nI u, sh) (mst, mwy, mmk, mwt, mvl, mof, mw, mf, nI u, mik, mtx, mln, mfi, mbe, mrs, mrw, mcl, mdo, mnu, mwd, msz, mso, mpl) := by
    intro r e1 e2
    refine ⟨.int r, _, _, kk_set l D B adK adV cC cF cI cZ cM cS xa ad (tx, told, draft, moT m, guess, past, stored, ist, nI p, nI u, sh) i v _ ((p + 1) % 8) hj e1, k6_set l D B adK adV cC cF cI cZ cM cS ya am (mst, mwy, mmk, mwt, mvl, mof, mw, mf, nI u, mik, mtx, mln, mfi, mbe, mrs, mrw, mcl, mdo, mnu, mwd, msz, mso, mpl) i v (r, mw, mf, nI u) e2, h1, h2, h3, S, W, h4, u, p, m, hu, hp, rfl, rfl, rfl, rfl, hok, hmr, ?_, hkp⟩
    show RPa S W u p (va_up past ((p + 1) % 8) (past ((p + 1) % 8))) mw mf
    rw [up_self]
    exact hpa
  rcases ix_cases i 3 (by omega) with hi | hi | ⟨a, ha, rfl⟩
  · exact stay (-2) (by unfold f_X5_set; rw [if_pos hi]) (by unfold f_X6_set; rw [third_lo hi]; rfl)
  · exact stay (-2) (by unfold f_X5_set; rw [if_neg (ge_neg (by omega) hi), if_neg (show ¬ i < 3 from ge_lt (k := 3) (by omega) hi (by omega))]) (by unfold f_X6_set; rw [third_hi hi]; rfl)
  · have ia : ¬ nI a < 0 := nneg (by omega)
    have ib : nI a < 3 := by show nI a < nI 3; rw [lt_nI (by omega) (by omega)]; exact ha
    have hnum := hmr.2.2.1 a ha
    by_cases v1 : v < -99
    · exact stay (-3) (by unfold f_X5_set; rw [if_neg ia, if_pos ib, if_pos v1]) (by
        unfold f_X6_set
        rw [third_ok ha, in_99, decide_eq_false (show ¬ (-99 : Int32) ≤ v from fun z => (nlt_le.mpr z) v1)]
        rfl)
    · by_cases v2 : v ≤ 99
      · have e6 : f_X6_in v.toInt64 (-99) 99 = some 1 := by rw [in_99, decide_eq_true (nlt_le.mp v1), decide_eq_true v2]; rfl
        by_cases hv : m.2.2.1 a = v
        · exact stay (-4) (by unfold f_X5_set; rw [if_neg ia, if_pos ib, if_neg v1, if_pos v2, gd_iok ha (by omega), if_pos (show m.2.2.1 (nI a).toNatClampNeg = v by rw [cl_nI (by omega)]; exact hv)]) (by
            unfold f_X6_set
            rw [third_ok ha, e6]
            simp only [Option.bind_some, if_neg o10]
            simp (disch := omega) only [l10, ad_nI, gd_iok, cl_nI]
            rw [if_pos (show mw (10 + a) = v by rw [← hv]; exact hnum)])
        · obtain ⟨mw', mf', q1, q2, q3, q4⟩ := p6_minds (mw := mw) (mf := mf) hu
          have e1 : f_X5_set (nI p) (nI u) m.2.2.2 (nI m.1.1) (nI m.1.2.1) (bwI m.1.2.2.1) (bfI m.1.2.2.1) (bdI m.1.2.2.1) m.1.2.2.2.1 m.1.2.2.2.2 (nI m.2.1.1) (nI m.2.1.2.1) (bwI m.2.1.2.2.1) (bfI m.2.1.2.2.1) (bdI m.2.1.2.2.1) m.2.1.2.2.2.1 m.2.1.2.2.2.2 m.2.2.1 (fun j => ([(ad 26), (ad 34), (ad 42), (ad 50), (ad 58), (ad 66), (ad 74), (ad 82)] : List Nat)[j]?) (ad (26 + 8 * ((p + 1) % 8))) (past ((p + 1) % 8)).2.2.2 (past ((p + 1) % 8)).1.1 (past ((p + 1) % 8)).1.2.1 (past ((p + 1) % 8)).1.2.2.1 (past ((p + 1) % 8)).1.2.2.2.1 (past ((p + 1) % 8)).1.2.2.2.2.1 (past ((p + 1) % 8)).1.2.2.2.2.2.1 (past ((p + 1) % 8)).1.2.2.2.2.2.2 (past ((p + 1) % 8)).2.1.1 (past ((p + 1) % 8)).2.1.2.1 (past ((p + 1) % 8)).2.1.2.2.1 (past ((p + 1) % 8)).2.1.2.2.2.1 (past ((p + 1) % 8)).2.1.2.2.2.2.1 (past ((p + 1) % 8)).2.1.2.2.2.2.2.1 (past ((p + 1) % 8)).2.1.2.2.2.2.2.2 (past ((p + 1) % 8)).2.2.1 (nI a) v = some (m.2.2.1 a + 100, upd m.2.2.1 a v, oR (cpM (past ((p + 1) % 8)) m) (nI ((p + 1) % 8)) (nI (min (u + 1) 8))) := by
            unfold f_X5_set
            rw [if_neg ia, if_pos ib, if_neg v1, if_pos v2, gd_iok ha (by omega), if_neg (show ¬ m.2.2.1 (nI a).toNatClampNeg = v by rw [cl_nI (by omega)]; exact hv), p_remember hp hu m (past ((p + 1) % 8)) (pastf _ hj)]
            unfold oR
            simp only [Option.bind_some]
            rw [gd_iok ha (by omega), cl_nI (by omega)]
          have e2 : f_X6_set (nI u) mw mf (nI a) v = some (m.2.2.1 a + 100, upd mw' (14 * 0 + 10 + a) v, mf', nI (min (u + 1) 8)) := by
            unfold f_X6_set
            rw [third_ok ha, e6]
            simp only [Option.bind_some, if_neg o10]
            simp (disch := omega) only [l10, ad_nI, gd_iok, cl_nI]
            rw [if_neg (show ¬ mw (10 + a) = v from fun z => hv (by rw [← z]; exact hnum.symm)), q1]
            simp only [Option.bind_some]
            rw [show mw (10 + a) = m.2.2.1 a from hnum]
          refine ⟨.int (m.2.2.1 a + 100), _, _, kk_set l D B adK adV cC cF cI cZ cM cS xa ad (tx, told, draft, moT m, guess, past, stored, ist, nI p, nI u, sh) (nI a) v _ ((p + 1) % 8) hj e1, k6_set l D B adK adV cC cF cI cZ cM cS ya am (mst, mwy, mmk, mwt, mvl, mof, mw, mf, nI u, mik, mtx, mln, mfi, mbe, mrs, mrw, mcl, mdo, mnu, mwd, msz, mso, mpl) (nI a) v (m.2.2.1 a + 100, upd mw' (14 * 0 + 10 + a) v, mf', nI (min (u + 1) 8)) e2, h1, h2, h3, S, W, h4, min (u + 1) 8, (p + 1) % 8, (m.1, m.2.1, upd m.2.2.1 a v, m.2.2.2), by omega, hj, rfl, rfl, rfl, rfl, hok, ?_, ?_, ?_⟩
          · exact MR_num (MR_row hmr (q2 0 (by omega))) ha
          · exact RPa_row (RPa_push hu hp hpa hok hmr q3 q4) (fun k hk => SR_upd (by omega))
          · exact RKp_row (RKp_row hkp (fun k hk => q2 _ (by omega))) (fun k hk => SR_upd (by omega))
      · exact stay (-3) (by unfold f_X5_set; rw [if_neg ia, if_pos ib, if_neg v1, if_neg v2]) (by
          unfold f_X6_set
          rw [third_ok ha, in_99, decide_eq_false v2, Bool.and_false]
          rfl)
