/-! ===== the law's cases: both do the call ===== -/
abbrev lwC : Nat := 127
abbrev lwS : Nat := 1928
theorem lw_ix {i L k : Nat} (hi : i + 5 ≤ L) (hL : L ≤ 2560) (hk : k < 5) : vp_in (nI i + nI k) L ∧ (nI i + nI k).toNatClampNeg = i + k := by
  rw [ad_nI]
  exact ⟨vp_in_nI (by omega) (by omega), cl_nI (by omega)⟩
theorem lw_rx {D : va_G} {tys : List (ClassId × FieldType)} {s : State} {H : Heap} {cC cF cI cZ cM cS : ClassId} {xa : Nat} {ad : Nat → Nat} {σ : XS} {wr : va_W} (hK : va_K D vwCl tys s) (hP : va_P D vwCl (WX xa ad cC cF cI cZ cM cS σ ++ wr) H) : ∃ cell : Cell, H[xa]? = some cell ∧ cell.vm.isStatics = false ∧ s.vm.findClass RX5 = some cell.cls := va_recv hK (P_left hP) (ci := 5) (q0 := 0) rfl rfl
theorem lw_rm {D : va_G} {tys : List (ClassId × FieldType)} {s : State} {H : Heap} {cC cF cI cZ cM cS : ClassId} {ya : Nat} {am : Nat → Nat} {τ : RS} {wr : va_W} (hK : va_K D vwCl tys s) (hP : va_P D vwCl (wr ++ WM ya am cC cF cI cZ cM cS τ) H) : ∃ cell : Cell, H[ya]? = some cell ∧ cell.vm.isStatics = false ∧ s.vm.findClass RX6 = some cell.cls := va_recv hK (P_right hP) (ci := 6) (q0 := 0) rfl rfl
theorem fst_l {w w' wr : va_W} (h : w'.map Prod.fst = w.map Prod.fst) : (w' ++ wr).map Prod.fst = (w ++ wr).map Prod.fst := by rw [List.map_append, List.map_append, h]
theorem fst_r {w w' wr : va_W} (h : w'.map Prod.fst = w.map Prod.fst) : (wr ++ w').map Prod.fst = (wr ++ w).map Prod.fst := by rw [List.map_append, List.map_append, h]
theorem lw_lc (v : Int64) : lg_cmp v v = 0 := by
  unfold lg_cmp
  rw [if_neg Int64.lt_irrefl, if_pos rfl]
set_option maxHeartbeats 1000000 in
set_option maxRecDepth 100000 in
theorem lw_c0 {p : Program} {l : Launch} {e : Env} {s : State} {m : MethodId} {below : List Frame} {meth : Method} {c : Code} {b L : Nat} {xs : Nat → Int32} {Q : State → Prop} {D : va_G} {adK adV : Nat → Nat} {cC cF cI cZ cM cS : ClassId} {xa ya : Nat} {ad am : Nat → Nat} {σ : XS} {τ : RS} {H : Heap} {locs : List Loc} {ls : Array Slot} {i : Nat} (C0 : lw_At p s m meth c b L xs) (hK : va_K D vwCl (tysX cC cF cI cZ cM cS) s) (hE : Ev s.heap.size adK adV s s.heap) (hR : RR σ τ) (hP : va_P D vwCl (WX xa ad cC cF cI cZ cM cS σ ++ WM ya am cC cF cI cZ cM cS τ) H) (hD : va_D (fun q : Nat => s.heap.size ≤ q) (WX xa ad cC cF cI cZ cM cS σ ++ WM ya am cC cF cI cZ cM cS τ)) (hS : va_S (fun q : Nat => s.heap.size ≤ q) s.heap H locs) (hi : i + 5 ≤ L) (hL : L ≤ 2560) (hl : lv_has ls 4 [(0, .ref b), (1, .ref xa), (2, .ref ya), (3, .int (nI i))])
    (kk : ∀ (σ' : XS) (τ' : RS) (H' : Heap) (locs' : List Loc), RR σ' τ' → va_P D vwCl (WX xa ad cC cF cI cZ cM cS σ' ++ WM ya am cC cF cI cZ cM cS τ') H' → va_D (fun q : Nat => s.heap.size ≤ q) (WX xa ad cC cF cI cZ cM cS σ' ++ WM ya am cC cF cI cZ cM cS τ') → va_S (fun q : Nat => s.heap.size ≤ q) s.heap H' locs' → W p l e room_1 s m #[Value.ref b] below meth c H' locs' lwC lwS Q (F0 m 999 ls [])) : W p l e room_1 s m #[Value.ref b] below meth c H locs lwC lwS Q (F0 m 168 ls []) := by
  obtain ⟨hx, hb, hr, hml, hown, hts, hX, hbl, hlocks, hgv⟩ := id C0
  have htl : ∀ w ∈ wsL_law, w.before #[Value.ref b] s = true := fun w h => hts w (wsL_law_in w h)
  have hbA : ¬ (fun q : Nat => s.heap.size ≤ q) b := Nat.not_le.mpr hbl
  obtain ⟨v, σ', τ', q1, q2, hR'⟩ := do_write (l := l) (D := D) (B := s.heap.size) (adK := adK) (adV := adV) (cC := cC) (cF := cF) (cI := cI) (cZ := cZ) (cM := cM) (cS := cS) (xa := xa) (ad := ad) (ya := ya) (am := am) hR (xs (i + 1))
  refine lv_aload_n hx hb dL_law_168 rfl (lv_at hl 1 rfl) ?_
  refine lv_aload_n hx hb dL_law_169 rfl (lv_at hl 0 rfl) ?_
  refine lv_iload_n hx hb dL_law_170 rfl (lv_at hl 3 rfl) ?_
  refine lv_iconst (v := nI 1) hx hb dL_law_171 (by decide) ?_
  refine lv_iadd hx hb dL_law_172 ?_
  refine va_sld hx hb hX hbl hbA hS (lw_ix hi hL (show 1 < 5 by omega)).1 dL_law_173 ?_
  rw [(lw_ix hi hL (show 1 < 5 by omega)).2]
  refine xcVw (As := [.int (xs (i + 1))]) (rest := []) ⟨hx, hb, hml, hown, htl⟩ (q1.left (WX_fst xa ad cC cF cI cZ cM cS σ σ') (WM ya am cC cF cI cZ cM cS τ)) (cwV 1 htl gL_law_X5_write rfl rfl rfl (by decide +kernel) ⟨Nat.le_of_ble_eq_true rfl, Nat.le_of_ble_eq_true rfl⟩) (lw_rx hK hP) hK hP hD hS (fun _ h => h) hE (fst_l (WX_fst xa ad cC cF cI cZ cM cS σ σ')) rfl hl.1 rfl (Nat.le_of_ble_eq_true rfl) dL_law_174 ⟨Nat.le_of_ble_eq_true rfl, Nat.le_of_ble_eq_true rfl⟩ (fun H locs hP hD hS => ?_)
  refine lv_aload_n hx hb dL_law_177 rfl (lv_at hl 2 rfl) ?_
  refine lv_aload_n hx hb dL_law_178 rfl (lv_at hl 0 rfl) ?_
  refine lv_iload_n hx hb dL_law_179 rfl (lv_at hl 3 rfl) ?_
  refine lv_iconst (v := nI 1) hx hb dL_law_180 (by decide) ?_
  refine lv_iadd hx hb dL_law_181 ?_
  refine va_sld hx hb hX hbl hbA hS (lw_ix hi hL (show 1 < 5 by omega)).1 dL_law_182 ?_
  rw [(lw_ix hi hL (show 1 < 5 by omega)).2]
  refine xcVw (As := [.int (xs (i + 1))]) (rest := [.int v]) ⟨hx, hb, hml, hown, htl⟩ (q2.right (WM_fst ya am cC cF cI cZ cM cS τ τ') (WX xa ad cC cF cI cZ cM cS σ')) (cwV 1 htl gL_law_X6_write rfl rfl rfl (by decide +kernel) ⟨Nat.le_of_ble_eq_true rfl, Nat.le_of_ble_eq_true rfl⟩) (lw_rm hK hP) hK hP hD hS (fun _ h => h) hE (fst_r (WM_fst ya am cC cF cI cZ cM cS τ τ')) rfl hl.1 rfl (Nat.le_of_ble_eq_true rfl) dL_law_183 ⟨Nat.le_of_ble_eq_true rfl, Nat.le_of_ble_eq_true rfl⟩ (fun H locs hP hD hS => ?_)
  refine lv_icmp_eq (tgt := 999) hx hb dL_law_186 (by decide) (fun _ => kk σ' τ' H locs hR' hP hD hS) (fun z => absurd rfl z)
set_option maxHeartbeats 1000000 in
set_option maxRecDepth 100000 in
theorem lw_c1 {p : Program} {l : Launch} {e : Env} {s : State} {m : MethodId} {below : List Frame} {meth : Method} {c : Code} {b L : Nat} {xs : Nat → Int32} {Q : State → Prop} {D : va_G} {adK adV : Nat → Nat} {cC cF cI cZ cM cS : ClassId} {xa ya : Nat} {ad am : Nat → Nat} {σ : XS} {τ : RS} {H : Heap} {locs : List Loc} {ls : Array Slot} {i : Nat} (C0 : lw_At p s m meth c b L xs) (hK : va_K D vwCl (tysX cC cF cI cZ cM cS) s) (hE : Ev s.heap.size adK adV s s.heap) (hR : RR σ τ) (hP : va_P D vwCl (WX xa ad cC cF cI cZ cM cS σ ++ WM ya am cC cF cI cZ cM cS τ) H) (hD : va_D (fun q : Nat => s.heap.size ≤ q) (WX xa ad cC cF cI cZ cM cS σ ++ WM ya am cC cF cI cZ cM cS τ)) (hS : va_S (fun q : Nat => s.heap.size ≤ q) s.heap H locs) (hi : i + 5 ≤ L) (hL : L ≤ 2560) (hl : lv_has ls 4 [(0, .ref b), (1, .ref xa), (2, .ref ya), (3, .int (nI i))])
    (kk : ∀ (σ' : XS) (τ' : RS) (H' : Heap) (locs' : List Loc), RR σ' τ' → va_P D vwCl (WX xa ad cC cF cI cZ cM cS σ' ++ WM ya am cC cF cI cZ cM cS τ') H' → va_D (fun q : Nat => s.heap.size ≤ q) (WX xa ad cC cF cI cZ cM cS σ' ++ WM ya am cC cF cI cZ cM cS τ') → va_S (fun q : Nat => s.heap.size ≤ q) s.heap H' locs' → W p l e room_1 s m #[Value.ref b] below meth c H' locs' lwC lwS Q (F0 m 999 ls [])) : W p l e room_1 s m #[Value.ref b] below meth c H locs lwC lwS Q (F0 m 191 ls []) := by
  obtain ⟨hx, hb, hr, hml, hown, hts, hX, hbl, hlocks, hgv⟩ := id C0
  have htl : ∀ w ∈ wsL_law, w.before #[Value.ref b] s = true := fun w h => hts w (wsL_law_in w h)
  have hbA : ¬ (fun q : Nat => s.heap.size ≤ q) b := Nat.not_le.mpr hbl
  obtain ⟨v, σ', τ', q1, q2, hR'⟩ := do_erase (l := l) (D := D) (B := s.heap.size) (adK := adK) (adV := adV) (cC := cC) (cF := cF) (cI := cI) (cZ := cZ) (cM := cM) (cS := cS) (xa := xa) (ad := ad) (ya := ya) (am := am) hR
  refine lv_aload_n hx hb dL_law_191 rfl (lv_at hl 1 rfl) ?_
  refine xcVw (As := []) (rest := []) ⟨hx, hb, hml, hown, htl⟩ (q1.left (WX_fst xa ad cC cF cI cZ cM cS σ σ') (WM ya am cC cF cI cZ cM cS τ)) (cwV 0 htl gL_law_X5_erase rfl rfl rfl (by decide +kernel) ⟨Nat.le_of_ble_eq_true rfl, Nat.le_of_ble_eq_true rfl⟩) (lw_rx hK hP) hK hP hD hS (fun _ h => h) hE (fst_l (WX_fst xa ad cC cF cI cZ cM cS σ σ')) rfl hl.1 rfl (Nat.le_of_ble_eq_true rfl) dL_law_192 ⟨Nat.le_of_ble_eq_true rfl, Nat.le_of_ble_eq_true rfl⟩ (fun H locs hP hD hS => ?_)
  refine lv_aload_n hx hb dL_law_195 rfl (lv_at hl 2 rfl) ?_
  refine xcVw (As := []) (rest := [.int v]) ⟨hx, hb, hml, hown, htl⟩ (q2.right (WM_fst ya am cC cF cI cZ cM cS τ τ') (WX xa ad cC cF cI cZ cM cS σ')) (cwV 0 htl gL_law_X6_erase rfl rfl rfl (by decide +kernel) ⟨Nat.le_of_ble_eq_true rfl, Nat.le_of_ble_eq_true rfl⟩) (lw_rm hK hP) hK hP hD hS (fun _ h => h) hE (fst_r (WM_fst ya am cC cF cI cZ cM cS τ τ')) rfl hl.1 rfl (Nat.le_of_ble_eq_true rfl) dL_law_196 ⟨Nat.le_of_ble_eq_true rfl, Nat.le_of_ble_eq_true rfl⟩ (fun H locs hP hD hS => ?_)
  refine lv_icmp_eq (tgt := 999) hx hb dL_law_199 (by decide) (fun _ => kk σ' τ' H locs hR' hP hD hS) (fun z => absurd rfl z)
set_option maxHeartbeats 1000000 in
set_option maxRecDepth 100000 in
theorem lw_c2 {p : Program} {l : Launch} {e : Env} {s : State} {m : MethodId} {below : List Frame} {meth : Method} {c : Code} {b L : Nat} {xs : Nat → Int32} {Q : State → Prop} {D : va_G} {adK adV : Nat → Nat} {cC cF cI cZ cM cS : ClassId} {xa ya : Nat} {ad am : Nat → Nat} {σ : XS} {τ : RS} {H : Heap} {locs : List Loc} {ls : Array Slot} {i : Nat} (C0 : lw_At p s m meth c b L xs) (hK : va_K D vwCl (tysX cC cF cI cZ cM cS) s) (hE : Ev s.heap.size adK adV s s.heap) (hR : RR σ τ) (hP : va_P D vwCl (WX xa ad cC cF cI cZ cM cS σ ++ WM ya am cC cF cI cZ cM cS τ) H) (hD : va_D (fun q : Nat => s.heap.size ≤ q) (WX xa ad cC cF cI cZ cM cS σ ++ WM ya am cC cF cI cZ cM cS τ)) (hS : va_S (fun q : Nat => s.heap.size ≤ q) s.heap H locs) (hi : i + 5 ≤ L) (hL : L ≤ 2560) (hl : lv_has ls 4 [(0, .ref b), (1, .ref xa), (2, .ref ya), (3, .int (nI i))])
    (kk : ∀ (σ' : XS) (τ' : RS) (H' : Heap) (locs' : List Loc), RR σ' τ' → va_P D vwCl (WX xa ad cC cF cI cZ cM cS σ' ++ WM ya am cC cF cI cZ cM cS τ') H' → va_D (fun q : Nat => s.heap.size ≤ q) (WX xa ad cC cF cI cZ cM cS σ' ++ WM ya am cC cF cI cZ cM cS τ') → va_S (fun q : Nat => s.heap.size ≤ q) s.heap H' locs' → W p l e room_1 s m #[Value.ref b] below meth c H' locs' lwC lwS Q (F0 m 999 ls [])) : W p l e room_1 s m #[Value.ref b] below meth c H locs lwC lwS Q (F0 m 204 ls []) := by
  obtain ⟨hx, hb, hr, hml, hown, hts, hX, hbl, hlocks, hgv⟩ := id C0
  have htl : ∀ w ∈ wsL_law, w.before #[Value.ref b] s = true := fun w h => hts w (wsL_law_in w h)
  have hbA : ¬ (fun q : Nat => s.heap.size ≤ q) b := Nat.not_le.mpr hbl
  obtain ⟨v, σ', τ', q1, q2, hR'⟩ := do_fault (l := l) (D := D) (B := s.heap.size) (adK := adK) (adV := adV) (cC := cC) (cF := cF) (cI := cI) (cZ := cZ) (cM := cM) (cS := cS) (xa := xa) (ad := ad) (ya := ya) (am := am) hR
  refine lv_aload_n hx hb dL_law_204 rfl (lv_at hl 1 rfl) ?_
  refine xcVw (As := []) (rest := []) ⟨hx, hb, hml, hown, htl⟩ (q1.left (WX_fst xa ad cC cF cI cZ cM cS σ σ') (WM ya am cC cF cI cZ cM cS τ)) (cwV 0 htl gL_law_X5_fault rfl rfl rfl (by decide +kernel) ⟨Nat.le_of_ble_eq_true rfl, Nat.le_of_ble_eq_true rfl⟩) (lw_rx hK hP) hK hP hD hS (fun _ h => h) hE (fst_l (WX_fst xa ad cC cF cI cZ cM cS σ σ')) rfl hl.1 rfl (Nat.le_of_ble_eq_true rfl) dL_law_205 ⟨Nat.le_of_ble_eq_true rfl, Nat.le_of_ble_eq_true rfl⟩ (fun H locs hP hD hS => ?_)
  refine lv_aload_n hx hb dL_law_208 rfl (lv_at hl 2 rfl) ?_
  refine xcVw (As := []) (rest := [.int v]) ⟨hx, hb, hml, hown, htl⟩ (q2.right (WM_fst ya am cC cF cI cZ cM cS τ τ') (WX xa ad cC cF cI cZ cM cS σ')) (cwV 0 htl gL_law_X6_fault rfl rfl rfl (by decide +kernel) ⟨Nat.le_of_ble_eq_true rfl, Nat.le_of_ble_eq_true rfl⟩) (lw_rm hK hP) hK hP hD hS (fun _ h => h) hE (fst_r (WM_fst ya am cC cF cI cZ cM cS τ τ')) rfl hl.1 rfl (Nat.le_of_ble_eq_true rfl) dL_law_209 ⟨Nat.le_of_ble_eq_true rfl, Nat.le_of_ble_eq_true rfl⟩ (fun H locs hP hD hS => ?_)
  refine lv_icmp_eq (tgt := 999) hx hb dL_law_212 (by decide) (fun _ => kk σ' τ' H locs hR' hP hD hS) (fun z => absurd rfl z)
set_option maxHeartbeats 1000000 in
set_option maxRecDepth 100000 in
theorem lw_c3 {p : Program} {l : Launch} {e : Env} {s : State} {m : MethodId} {below : List Frame} {meth : Method} {c : Code} {b L : Nat} {xs : Nat → Int32} {Q : State → Prop} {D : va_G} {adK adV : Nat → Nat} {cC cF cI cZ cM cS : ClassId} {xa ya : Nat} {ad am : Nat → Nat} {σ : XS} {τ : RS} {H : Heap} {locs : List Loc} {ls : Array Slot} {i : Nat} (C0 : lw_At p s m meth c b L xs) (hK : va_K D vwCl (tysX cC cF cI cZ cM cS) s) (hE : Ev s.heap.size adK adV s s.heap) (hR : RR σ τ) (hP : va_P D vwCl (WX xa ad cC cF cI cZ cM cS σ ++ WM ya am cC cF cI cZ cM cS τ) H) (hD : va_D (fun q : Nat => s.heap.size ≤ q) (WX xa ad cC cF cI cZ cM cS σ ++ WM ya am cC cF cI cZ cM cS τ)) (hS : va_S (fun q : Nat => s.heap.size ≤ q) s.heap H locs) (hi : i + 5 ≤ L) (hL : L ≤ 2560) (hl : lv_has ls 4 [(0, .ref b), (1, .ref xa), (2, .ref ya), (3, .int (nI i))])
    (kk : ∀ (σ' : XS) (τ' : RS) (H' : Heap) (locs' : List Loc), RR σ' τ' → va_P D vwCl (WX xa ad cC cF cI cZ cM cS σ' ++ WM ya am cC cF cI cZ cM cS τ') H' → va_D (fun q : Nat => s.heap.size ≤ q) (WX xa ad cC cF cI cZ cM cS σ' ++ WM ya am cC cF cI cZ cM cS τ') → va_S (fun q : Nat => s.heap.size ≤ q) s.heap H' locs' → W p l e room_1 s m #[Value.ref b] below meth c H' locs' lwC lwS Q (F0 m 999 ls [])) : W p l e room_1 s m #[Value.ref b] below meth c H locs lwC lwS Q (F0 m 217 ls []) := by
  obtain ⟨hx, hb, hr, hml, hown, hts, hX, hbl, hlocks, hgv⟩ := id C0
  have htl : ∀ w ∈ wsL_law, w.before #[Value.ref b] s = true := fun w h => hts w (wsL_law_in w h)
  have hbA : ¬ (fun q : Nat => s.heap.size ≤ q) b := Nat.not_le.mpr hbl
  obtain ⟨v, σ', τ', q1, q2, hR'⟩ := do_figure (l := l) (D := D) (B := s.heap.size) (adK := adK) (adV := adV) (cC := cC) (cF := cF) (cI := cI) (cZ := cZ) (cM := cM) (cS := cS) (xa := xa) (ad := ad) (ya := ya) (am := am) hR
  refine lv_aload_n hx hb dL_law_217 rfl (lv_at hl 1 rfl) ?_
  refine xcVw (As := []) (rest := []) ⟨hx, hb, hml, hown, htl⟩ (q1.left (WX_fst xa ad cC cF cI cZ cM cS σ σ') (WM ya am cC cF cI cZ cM cS τ)) (cwV 0 htl gL_law_X5_figure rfl rfl rfl (by decide +kernel) ⟨Nat.le_of_ble_eq_true rfl, Nat.le_of_ble_eq_true rfl⟩) (lw_rx hK hP) hK hP hD hS (fun _ h => h) hE (fst_l (WX_fst xa ad cC cF cI cZ cM cS σ σ')) rfl hl.1 rfl (Nat.le_of_ble_eq_true rfl) dL_law_218 ⟨Nat.le_of_ble_eq_true rfl, Nat.le_of_ble_eq_true rfl⟩ (fun H locs hP hD hS => ?_)
  refine lv_aload_n hx hb dL_law_221 rfl (lv_at hl 2 rfl) ?_
  refine xcVw (As := []) (rest := [.int v]) ⟨hx, hb, hml, hown, htl⟩ (q2.right (WM_fst ya am cC cF cI cZ cM cS τ τ') (WX xa ad cC cF cI cZ cM cS σ')) (cwV 0 htl gL_law_X6_figure rfl rfl rfl (by decide +kernel) ⟨Nat.le_of_ble_eq_true rfl, Nat.le_of_ble_eq_true rfl⟩) (lw_rm hK hP) hK hP hD hS (fun _ h => h) hE (fst_r (WM_fst ya am cC cF cI cZ cM cS τ τ')) rfl hl.1 rfl (Nat.le_of_ble_eq_true rfl) dL_law_222 ⟨Nat.le_of_ble_eq_true rfl, Nat.le_of_ble_eq_true rfl⟩ (fun H locs hP hD hS => ?_)
  refine lv_icmp_eq (tgt := 999) hx hb dL_law_225 (by decide) (fun _ => kk σ' τ' H locs hR' hP hD hS) (fun z => absurd rfl z)
set_option maxHeartbeats 1000000 in
set_option maxRecDepth 100000 in
theorem lw_c4 {p : Program} {l : Launch} {e : Env} {s : State} {m : MethodId} {below : List Frame} {meth : Method} {c : Code} {b L : Nat} {xs : Nat → Int32} {Q : State → Prop} {D : va_G} {adK adV : Nat → Nat} {cC cF cI cZ cM cS : ClassId} {xa ya : Nat} {ad am : Nat → Nat} {σ : XS} {τ : RS} {H : Heap} {locs : List Loc} {ls : Array Slot} {i : Nat} (C0 : lw_At p s m meth c b L xs) (hK : va_K D vwCl (tysX cC cF cI cZ cM cS) s) (hE : Ev s.heap.size adK adV s s.heap) (hR : RR σ τ) (hP : va_P D vwCl (WX xa ad cC cF cI cZ cM cS σ ++ WM ya am cC cF cI cZ cM cS τ) H) (hD : va_D (fun q : Nat => s.heap.size ≤ q) (WX xa ad cC cF cI cZ cM cS σ ++ WM ya am cC cF cI cZ cM cS τ)) (hS : va_S (fun q : Nat => s.heap.size ≤ q) s.heap H locs) (hi : i + 5 ≤ L) (hL : L ≤ 2560) (hl : lv_has ls 4 [(0, .ref b), (1, .ref xa), (2, .ref ya), (3, .int (nI i))])
    (kk : ∀ (σ' : XS) (τ' : RS) (H' : Heap) (locs' : List Loc), RR σ' τ' → va_P D vwCl (WX xa ad cC cF cI cZ cM cS σ' ++ WM ya am cC cF cI cZ cM cS τ') H' → va_D (fun q : Nat => s.heap.size ≤ q) (WX xa ad cC cF cI cZ cM cS σ' ++ WM ya am cC cF cI cZ cM cS τ') → va_S (fun q : Nat => s.heap.size ≤ q) s.heap H' locs' → W p l e room_1 s m #[Value.ref b] below meth c H' locs' lwC lwS Q (F0 m 999 ls [])) : W p l e room_1 s m #[Value.ref b] below meth c H locs lwC lwS Q (F0 m 230 ls []) := by
  obtain ⟨hx, hb, hr, hml, hown, hts, hX, hbl, hlocks, hgv⟩ := id C0
  have htl : ∀ w ∈ wsL_law, w.before #[Value.ref b] s = true := fun w h => hts w (wsL_law_in w h)
  have hbA : ¬ (fun q : Nat => s.heap.size ≤ q) b := Nat.not_le.mpr hbl
  obtain ⟨v, σ', τ', q1, q2, hR'⟩ := do_value (l := l) (D := D) (B := s.heap.size) (adK := adK) (adV := adV) (cC := cC) (cF := cF) (cI := cI) (cZ := cZ) (cM := cM) (cS := cS) (xa := xa) (ad := ad) (ya := ya) (am := am) hR (xs (i + 1)) (xs (i + 2))
  refine lv_aload_n hx hb dL_law_230 rfl (lv_at hl 1 rfl) ?_
  refine lv_aload_n hx hb dL_law_231 rfl (lv_at hl 0 rfl) ?_
  refine lv_iload_n hx hb dL_law_232 rfl (lv_at hl 3 rfl) ?_
  refine lv_iconst (v := nI 1) hx hb dL_law_233 (by decide) ?_
  refine lv_iadd hx hb dL_law_234 ?_
  refine va_sld hx hb hX hbl hbA hS (lw_ix hi hL (show 1 < 5 by omega)).1 dL_law_235 ?_
  rw [(lw_ix hi hL (show 1 < 5 by omega)).2]
  refine lv_aload_n hx hb dL_law_236 rfl (lv_at hl 0 rfl) ?_
  refine lv_iload_n hx hb dL_law_237 rfl (lv_at hl 3 rfl) ?_
  refine lv_iconst (v := nI 2) hx hb dL_law_238 (by decide) ?_
  refine lv_iadd hx hb dL_law_239 ?_
  refine va_sld hx hb hX hbl hbA hS (lw_ix hi hL (show 2 < 5 by omega)).1 dL_law_240 ?_
  rw [(lw_ix hi hL (show 2 < 5 by omega)).2]
  refine xcVw (As := [.int (xs (i + 1)), .int (xs (i + 2))]) (rest := []) ⟨hx, hb, hml, hown, htl⟩ (q1.left (WX_fst xa ad cC cF cI cZ cM cS σ σ') (WM ya am cC cF cI cZ cM cS τ)) (cwV 2 htl gL_law_X5_value rfl rfl rfl (by decide +kernel) ⟨Nat.le_of_ble_eq_true rfl, Nat.le_of_ble_eq_true rfl⟩) (lw_rx hK hP) hK hP hD hS (fun _ h => h) hE (fst_l (WX_fst xa ad cC cF cI cZ cM cS σ σ')) rfl hl.1 rfl (Nat.le_of_ble_eq_true rfl) dL_law_241 ⟨Nat.le_of_ble_eq_true rfl, Nat.le_of_ble_eq_true rfl⟩ (fun H locs hP hD hS => ?_)
  refine lv_aload_n hx hb dL_law_244 rfl (lv_at hl 2 rfl) ?_
  refine lv_aload_n hx hb dL_law_245 rfl (lv_at hl 0 rfl) ?_
  refine lv_iload_n hx hb dL_law_246 rfl (lv_at hl 3 rfl) ?_
  refine lv_iconst (v := nI 1) hx hb dL_law_247 (by decide) ?_
  refine lv_iadd hx hb dL_law_248 ?_
  refine va_sld hx hb hX hbl hbA hS (lw_ix hi hL (show 1 < 5 by omega)).1 dL_law_249 ?_
  rw [(lw_ix hi hL (show 1 < 5 by omega)).2]
  refine lv_aload_n hx hb dL_law_250 rfl (lv_at hl 0 rfl) ?_
  refine lv_iload_n hx hb dL_law_251 rfl (lv_at hl 3 rfl) ?_
  refine lv_iconst (v := nI 2) hx hb dL_law_252 (by decide) ?_
  refine lv_iadd hx hb dL_law_253 ?_
  refine va_sld hx hb hX hbl hbA hS (lw_ix hi hL (show 2 < 5 by omega)).1 dL_law_254 ?_
  rw [(lw_ix hi hL (show 2 < 5 by omega)).2]
  refine xcVw (As := [.int (xs (i + 1)), .int (xs (i + 2))]) (rest := [.int v]) ⟨hx, hb, hml, hown, htl⟩ (q2.right (WM_fst ya am cC cF cI cZ cM cS τ τ') (WX xa ad cC cF cI cZ cM cS σ')) (cwV 2 htl gL_law_X6_value rfl rfl rfl (by decide +kernel) ⟨Nat.le_of_ble_eq_true rfl, Nat.le_of_ble_eq_true rfl⟩) (lw_rm hK hP) hK hP hD hS (fun _ h => h) hE (fst_r (WM_fst ya am cC cF cI cZ cM cS τ τ')) rfl hl.1 rfl (Nat.le_of_ble_eq_true rfl) dL_law_255 ⟨Nat.le_of_ble_eq_true rfl, Nat.le_of_ble_eq_true rfl⟩ (fun H locs hP hD hS => ?_)
  refine lv_icmp_eq (tgt := 999) hx hb dL_law_258 (by decide) (fun _ => kk σ' τ' H locs hR' hP hD hS) (fun z => absurd rfl z)
set_option maxHeartbeats 1000000 in
set_option maxRecDepth 100000 in
theorem lw_c5 {p : Program} {l : Launch} {e : Env} {s : State} {m : MethodId} {below : List Frame} {meth : Method} {c : Code} {b L : Nat} {xs : Nat → Int32} {Q : State → Prop} {D : va_G} {adK adV : Nat → Nat} {cC cF cI cZ cM cS : ClassId} {xa ya : Nat} {ad am : Nat → Nat} {σ : XS} {τ : RS} {H : Heap} {locs : List Loc} {ls : Array Slot} {i : Nat} (C0 : lw_At p s m meth c b L xs) (hK : va_K D vwCl (tysX cC cF cI cZ cM cS) s) (hE : Ev s.heap.size adK adV s s.heap) (hR : RR σ τ) (hP : va_P D vwCl (WX xa ad cC cF cI cZ cM cS σ ++ WM ya am cC cF cI cZ cM cS τ) H) (hD : va_D (fun q : Nat => s.heap.size ≤ q) (WX xa ad cC cF cI cZ cM cS σ ++ WM ya am cC cF cI cZ cM cS τ)) (hS : va_S (fun q : Nat => s.heap.size ≤ q) s.heap H locs) (hi : i + 5 ≤ L) (hL : L ≤ 2560) (hl : lv_has ls 4 [(0, .ref b), (1, .ref xa), (2, .ref ya), (3, .int (nI i))])
    (kk : ∀ (σ' : XS) (τ' : RS) (H' : Heap) (locs' : List Loc), RR σ' τ' → va_P D vwCl (WX xa ad cC cF cI cZ cM cS σ' ++ WM ya am cC cF cI cZ cM cS τ') H' → va_D (fun q : Nat => s.heap.size ≤ q) (WX xa ad cC cF cI cZ cM cS σ' ++ WM ya am cC cF cI cZ cM cS τ') → va_S (fun q : Nat => s.heap.size ≤ q) s.heap H' locs' → W p l e room_1 s m #[Value.ref b] below meth c H' locs' lwC lwS Q (F0 m 999 ls [])) : W p l e room_1 s m #[Value.ref b] below meth c H locs lwC lwS Q (F0 m 263 ls []) := by
  obtain ⟨hx, hb, hr, hml, hown, hts, hX, hbl, hlocks, hgv⟩ := id C0
  have htl : ∀ w ∈ wsL_law, w.before #[Value.ref b] s = true := fun w h => hts w (wsL_law_in w h)
  have hbA : ¬ (fun q : Nat => s.heap.size ≤ q) b := Nat.not_le.mpr hbl
  obtain ⟨v, σ', τ', q1, q2, hR'⟩ := do_way (l := l) (D := D) (B := s.heap.size) (adK := adK) (adV := adV) (cC := cC) (cF := cF) (cI := cI) (cZ := cZ) (cM := cM) (cS := cS) (xa := xa) (ad := ad) (ya := ya) (am := am) hR (xs (i + 1)) (xs (i + 2))
  refine lv_aload_n hx hb dL_law_263 rfl (lv_at hl 1 rfl) ?_
  refine lv_aload_n hx hb dL_law_264 rfl (lv_at hl 0 rfl) ?_
  refine lv_iload_n hx hb dL_law_265 rfl (lv_at hl 3 rfl) ?_
  refine lv_iconst (v := nI 1) hx hb dL_law_266 (by decide) ?_
  refine lv_iadd hx hb dL_law_267 ?_
  refine va_sld hx hb hX hbl hbA hS (lw_ix hi hL (show 1 < 5 by omega)).1 dL_law_268 ?_
  rw [(lw_ix hi hL (show 1 < 5 by omega)).2]
  refine lv_aload_n hx hb dL_law_269 rfl (lv_at hl 0 rfl) ?_
  refine lv_iload_n hx hb dL_law_270 rfl (lv_at hl 3 rfl) ?_
  refine lv_iconst (v := nI 2) hx hb dL_law_271 (by decide) ?_
  refine lv_iadd hx hb dL_law_272 ?_
  refine va_sld hx hb hX hbl hbA hS (lw_ix hi hL (show 2 < 5 by omega)).1 dL_law_273 ?_
  rw [(lw_ix hi hL (show 2 < 5 by omega)).2]
  refine xcVw (As := [.int (xs (i + 1)), .int (xs (i + 2))]) (rest := []) ⟨hx, hb, hml, hown, htl⟩ (q1.left (WX_fst xa ad cC cF cI cZ cM cS σ σ') (WM ya am cC cF cI cZ cM cS τ)) (cwV 2 htl gL_law_X5_way rfl rfl rfl (by decide +kernel) ⟨Nat.le_of_ble_eq_true rfl, Nat.le_of_ble_eq_true rfl⟩) (lw_rx hK hP) hK hP hD hS (fun _ h => h) hE (fst_l (WX_fst xa ad cC cF cI cZ cM cS σ σ')) rfl hl.1 rfl (Nat.le_of_ble_eq_true rfl) dL_law_274 ⟨Nat.le_of_ble_eq_true rfl, Nat.le_of_ble_eq_true rfl⟩ (fun H locs hP hD hS => ?_)
  refine lv_aload_n hx hb dL_law_277 rfl (lv_at hl 2 rfl) ?_
  refine lv_aload_n hx hb dL_law_278 rfl (lv_at hl 0 rfl) ?_
  refine lv_iload_n hx hb dL_law_279 rfl (lv_at hl 3 rfl) ?_
  refine lv_iconst (v := nI 1) hx hb dL_law_280 (by decide) ?_
  refine lv_iadd hx hb dL_law_281 ?_
  refine va_sld hx hb hX hbl hbA hS (lw_ix hi hL (show 1 < 5 by omega)).1 dL_law_282 ?_
  rw [(lw_ix hi hL (show 1 < 5 by omega)).2]
  refine lv_aload_n hx hb dL_law_283 rfl (lv_at hl 0 rfl) ?_
  refine lv_iload_n hx hb dL_law_284 rfl (lv_at hl 3 rfl) ?_
  refine lv_iconst (v := nI 2) hx hb dL_law_285 (by decide) ?_
  refine lv_iadd hx hb dL_law_286 ?_
  refine va_sld hx hb hX hbl hbA hS (lw_ix hi hL (show 2 < 5 by omega)).1 dL_law_287 ?_
  rw [(lw_ix hi hL (show 2 < 5 by omega)).2]
  refine xcVw (As := [.int (xs (i + 1)), .int (xs (i + 2))]) (rest := [.int v]) ⟨hx, hb, hml, hown, htl⟩ (q2.right (WM_fst ya am cC cF cI cZ cM cS τ τ') (WX xa ad cC cF cI cZ cM cS σ')) (cwV 2 htl gL_law_X6_way rfl rfl rfl (by decide +kernel) ⟨Nat.le_of_ble_eq_true rfl, Nat.le_of_ble_eq_true rfl⟩) (lw_rm hK hP) hK hP hD hS (fun _ h => h) hE (fst_r (WM_fst ya am cC cF cI cZ cM cS τ τ')) rfl hl.1 rfl (Nat.le_of_ble_eq_true rfl) dL_law_288 ⟨Nat.le_of_ble_eq_true rfl, Nat.le_of_ble_eq_true rfl⟩ (fun H locs hP hD hS => ?_)
  refine lv_icmp_eq (tgt := 999) hx hb dL_law_291 (by decide) (fun _ => kk σ' τ' H locs hR' hP hD hS) (fun z => absurd rfl z)
set_option maxHeartbeats 1000000 in
set_option maxRecDepth 100000 in
theorem lw_c6 {p : Program} {l : Launch} {e : Env} {s : State} {m : MethodId} {below : List Frame} {meth : Method} {c : Code} {b L : Nat} {xs : Nat → Int32} {Q : State → Prop} {D : va_G} {adK adV : Nat → Nat} {cC cF cI cZ cM cS : ClassId} {xa ya : Nat} {ad am : Nat → Nat} {σ : XS} {τ : RS} {H : Heap} {locs : List Loc} {ls : Array Slot} {i : Nat} (C0 : lw_At p s m meth c b L xs) (hK : va_K D vwCl (tysX cC cF cI cZ cM cS) s) (hE : Ev s.heap.size adK adV s s.heap) (hR : RR σ τ) (hP : va_P D vwCl (WX xa ad cC cF cI cZ cM cS σ ++ WM ya am cC cF cI cZ cM cS τ) H) (hD : va_D (fun q : Nat => s.heap.size ≤ q) (WX xa ad cC cF cI cZ cM cS σ ++ WM ya am cC cF cI cZ cM cS τ)) (hS : va_S (fun q : Nat => s.heap.size ≤ q) s.heap H locs) (hi : i + 5 ≤ L) (hL : L ≤ 2560) (hl : lv_has ls 4 [(0, .ref b), (1, .ref xa), (2, .ref ya), (3, .int (nI i))])
    (kk : ∀ (σ' : XS) (τ' : RS) (H' : Heap) (locs' : List Loc), RR σ' τ' → va_P D vwCl (WX xa ad cC cF cI cZ cM cS σ' ++ WM ya am cC cF cI cZ cM cS τ') H' → va_D (fun q : Nat => s.heap.size ≤ q) (WX xa ad cC cF cI cZ cM cS σ' ++ WM ya am cC cF cI cZ cM cS τ') → va_S (fun q : Nat => s.heap.size ≤ q) s.heap H' locs' → W p l e room_1 s m #[Value.ref b] below meth c H' locs' lwC lwS Q (F0 m 999 ls [])) : W p l e room_1 s m #[Value.ref b] below meth c H locs lwC lwS Q (F0 m 296 ls []) := by
  obtain ⟨hx, hb, hr, hml, hown, hts, hX, hbl, hlocks, hgv⟩ := id C0
  have htl : ∀ w ∈ wsL_law, w.before #[Value.ref b] s = true := fun w h => hts w (wsL_law_in w h)
  have hbA : ¬ (fun q : Nat => s.heap.size ≤ q) b := Nat.not_le.mpr hbl
  obtain ⟨v, σ', τ', q1, q2, hR'⟩ := do_set (l := l) (D := D) (B := s.heap.size) (adK := adK) (adV := adV) (cC := cC) (cF := cF) (cI := cI) (cZ := cZ) (cM := cM) (cS := cS) (xa := xa) (ad := ad) (ya := ya) (am := am) hR (xs (i + 1)) (xs (i + 2))
  refine lv_aload_n hx hb dL_law_296 rfl (lv_at hl 1 rfl) ?_
  refine lv_aload_n hx hb dL_law_297 rfl (lv_at hl 0 rfl) ?_
  refine lv_iload_n hx hb dL_law_298 rfl (lv_at hl 3 rfl) ?_
  refine lv_iconst (v := nI 1) hx hb dL_law_299 (by decide) ?_
  refine lv_iadd hx hb dL_law_300 ?_
  refine va_sld hx hb hX hbl hbA hS (lw_ix hi hL (show 1 < 5 by omega)).1 dL_law_301 ?_
  rw [(lw_ix hi hL (show 1 < 5 by omega)).2]
  refine lv_aload_n hx hb dL_law_302 rfl (lv_at hl 0 rfl) ?_
  refine lv_iload_n hx hb dL_law_303 rfl (lv_at hl 3 rfl) ?_
  refine lv_iconst (v := nI 2) hx hb dL_law_304 (by decide) ?_
  refine lv_iadd hx hb dL_law_305 ?_
  refine va_sld hx hb hX hbl hbA hS (lw_ix hi hL (show 2 < 5 by omega)).1 dL_law_306 ?_
  rw [(lw_ix hi hL (show 2 < 5 by omega)).2]
  refine xcVw (As := [.int (xs (i + 1)), .int (xs (i + 2))]) (rest := []) ⟨hx, hb, hml, hown, htl⟩ (q1.left (WX_fst xa ad cC cF cI cZ cM cS σ σ') (WM ya am cC cF cI cZ cM cS τ)) (cwV 2 htl gL_law_X5_set rfl rfl rfl (by decide +kernel) ⟨Nat.le_of_ble_eq_true rfl, Nat.le_of_ble_eq_true rfl⟩) (lw_rx hK hP) hK hP hD hS (fun _ h => h) hE (fst_l (WX_fst xa ad cC cF cI cZ cM cS σ σ')) rfl hl.1 rfl (Nat.le_of_ble_eq_true rfl) dL_law_307 ⟨Nat.le_of_ble_eq_true rfl, Nat.le_of_ble_eq_true rfl⟩ (fun H locs hP hD hS => ?_)
  refine lv_aload_n hx hb dL_law_310 rfl (lv_at hl 2 rfl) ?_
  refine lv_aload_n hx hb dL_law_311 rfl (lv_at hl 0 rfl) ?_
  refine lv_iload_n hx hb dL_law_312 rfl (lv_at hl 3 rfl) ?_
  refine lv_iconst (v := nI 1) hx hb dL_law_313 (by decide) ?_
  refine lv_iadd hx hb dL_law_314 ?_
  refine va_sld hx hb hX hbl hbA hS (lw_ix hi hL (show 1 < 5 by omega)).1 dL_law_315 ?_
  rw [(lw_ix hi hL (show 1 < 5 by omega)).2]
  refine lv_aload_n hx hb dL_law_316 rfl (lv_at hl 0 rfl) ?_
  refine lv_iload_n hx hb dL_law_317 rfl (lv_at hl 3 rfl) ?_
  refine lv_iconst (v := nI 2) hx hb dL_law_318 (by decide) ?_
  refine lv_iadd hx hb dL_law_319 ?_
  refine va_sld hx hb hX hbl hbA hS (lw_ix hi hL (show 2 < 5 by omega)).1 dL_law_320 ?_
  rw [(lw_ix hi hL (show 2 < 5 by omega)).2]
  refine xcVw (As := [.int (xs (i + 1)), .int (xs (i + 2))]) (rest := [.int v]) ⟨hx, hb, hml, hown, htl⟩ (q2.right (WM_fst ya am cC cF cI cZ cM cS τ τ') (WX xa ad cC cF cI cZ cM cS σ')) (cwV 2 htl gL_law_X6_set rfl rfl rfl (by decide +kernel) ⟨Nat.le_of_ble_eq_true rfl, Nat.le_of_ble_eq_true rfl⟩) (lw_rm hK hP) hK hP hD hS (fun _ h => h) hE (fst_r (WM_fst ya am cC cF cI cZ cM cS τ τ')) rfl hl.1 rfl (Nat.le_of_ble_eq_true rfl) dL_law_321 ⟨Nat.le_of_ble_eq_true rfl, Nat.le_of_ble_eq_true rfl⟩ (fun H locs hP hD hS => ?_)
  refine lv_icmp_eq (tgt := 999) hx hb dL_law_324 (by decide) (fun _ => kk σ' τ' H locs hR' hP hD hS) (fun z => absurd rfl z)
set_option maxHeartbeats 1000000 in
set_option maxRecDepth 100000 in
theorem lw_c7 {p : Program} {l : Launch} {e : Env} {s : State} {m : MethodId} {below : List Frame} {meth : Method} {c : Code} {b L : Nat} {xs : Nat → Int32} {Q : State → Prop} {D : va_G} {adK adV : Nat → Nat} {cC cF cI cZ cM cS : ClassId} {xa ya : Nat} {ad am : Nat → Nat} {σ : XS} {τ : RS} {H : Heap} {locs : List Loc} {ls : Array Slot} {i : Nat} (C0 : lw_At p s m meth c b L xs) (hK : va_K D vwCl (tysX cC cF cI cZ cM cS) s) (hE : Ev s.heap.size adK adV s s.heap) (hR : RR σ τ) (hP : va_P D vwCl (WX xa ad cC cF cI cZ cM cS σ ++ WM ya am cC cF cI cZ cM cS τ) H) (hD : va_D (fun q : Nat => s.heap.size ≤ q) (WX xa ad cC cF cI cZ cM cS σ ++ WM ya am cC cF cI cZ cM cS τ)) (hS : va_S (fun q : Nat => s.heap.size ≤ q) s.heap H locs) (hi : i + 5 ≤ L) (hL : L ≤ 2560) (hl : lv_has ls 4 [(0, .ref b), (1, .ref xa), (2, .ref ya), (3, .int (nI i))])
    (kk : ∀ (σ' : XS) (τ' : RS) (H' : Heap) (locs' : List Loc), RR σ' τ' → va_P D vwCl (WX xa ad cC cF cI cZ cM cS σ' ++ WM ya am cC cF cI cZ cM cS τ') H' → va_D (fun q : Nat => s.heap.size ≤ q) (WX xa ad cC cF cI cZ cM cS σ' ++ WM ya am cC cF cI cZ cM cS τ') → va_S (fun q : Nat => s.heap.size ≤ q) s.heap H' locs' → W p l e room_1 s m #[Value.ref b] below meth c H' locs' lwC lwS Q (F0 m 999 ls [])) : W p l e room_1 s m #[Value.ref b] below meth c H locs lwC lwS Q (F0 m 329 ls []) := by
  obtain ⟨hx, hb, hr, hml, hown, hts, hX, hbl, hlocks, hgv⟩ := id C0
  have htl : ∀ w ∈ wsL_law, w.before #[Value.ref b] s = true := fun w h => hts w (wsL_law_in w h)
  have hbA : ¬ (fun q : Nat => s.heap.size ≤ q) b := Nat.not_le.mpr hbl
  obtain ⟨v, σ', τ', q1, q2, hR'⟩ := do_pull (l := l) (D := D) (B := s.heap.size) (adK := adK) (adV := adV) (cC := cC) (cF := cF) (cI := cI) (cZ := cZ) (cM := cM) (cS := cS) (xa := xa) (ad := ad) (ya := ya) (am := am) hR (xs (i + 1))
  refine lv_aload_n hx hb dL_law_329 rfl (lv_at hl 1 rfl) ?_
  refine lv_aload_n hx hb dL_law_330 rfl (lv_at hl 0 rfl) ?_
  refine lv_iload_n hx hb dL_law_331 rfl (lv_at hl 3 rfl) ?_
  refine lv_iconst (v := nI 1) hx hb dL_law_332 (by decide) ?_
  refine lv_iadd hx hb dL_law_333 ?_
  refine va_sld hx hb hX hbl hbA hS (lw_ix hi hL (show 1 < 5 by omega)).1 dL_law_334 ?_
  rw [(lw_ix hi hL (show 1 < 5 by omega)).2]
  refine xcVw (As := [.int (xs (i + 1))]) (rest := []) ⟨hx, hb, hml, hown, htl⟩ (q1.left (WX_fst xa ad cC cF cI cZ cM cS σ σ') (WM ya am cC cF cI cZ cM cS τ)) (cwV 1 htl gL_law_X5_pull rfl rfl rfl (by decide +kernel) ⟨Nat.le_of_ble_eq_true rfl, Nat.le_of_ble_eq_true rfl⟩) (lw_rx hK hP) hK hP hD hS (fun _ h => h) hE (fst_l (WX_fst xa ad cC cF cI cZ cM cS σ σ')) rfl hl.1 rfl (Nat.le_of_ble_eq_true rfl) dL_law_335 ⟨Nat.le_of_ble_eq_true rfl, Nat.le_of_ble_eq_true rfl⟩ (fun H locs hP hD hS => ?_)
  refine lv_aload_n hx hb dL_law_338 rfl (lv_at hl 2 rfl) ?_
  refine lv_aload_n hx hb dL_law_339 rfl (lv_at hl 0 rfl) ?_
  refine lv_iload_n hx hb dL_law_340 rfl (lv_at hl 3 rfl) ?_
  refine lv_iconst (v := nI 1) hx hb dL_law_341 (by decide) ?_
  refine lv_iadd hx hb dL_law_342 ?_
  refine va_sld hx hb hX hbl hbA hS (lw_ix hi hL (show 1 < 5 by omega)).1 dL_law_343 ?_
  rw [(lw_ix hi hL (show 1 < 5 by omega)).2]
  refine xcVw (As := [.int (xs (i + 1))]) (rest := [.int v]) ⟨hx, hb, hml, hown, htl⟩ (q2.right (WM_fst ya am cC cF cI cZ cM cS τ τ') (WX xa ad cC cF cI cZ cM cS σ')) (cwV 1 htl gL_law_X6_pull rfl rfl rfl (by decide +kernel) ⟨Nat.le_of_ble_eq_true rfl, Nat.le_of_ble_eq_true rfl⟩) (lw_rm hK hP) hK hP hD hS (fun _ h => h) hE (fst_r (WM_fst ya am cC cF cI cZ cM cS τ τ')) rfl hl.1 rfl (Nat.le_of_ble_eq_true rfl) dL_law_344 ⟨Nat.le_of_ble_eq_true rfl, Nat.le_of_ble_eq_true rfl⟩ (fun H locs hP hD hS => ?_)
  refine lv_icmp_eq (tgt := 999) hx hb dL_law_347 (by decide) (fun _ => kk σ' τ' H locs hR' hP hD hS) (fun z => absurd rfl z)
set_option maxHeartbeats 1000000 in
set_option maxRecDepth 100000 in
theorem lw_c8 {p : Program} {l : Launch} {e : Env} {s : State} {m : MethodId} {below : List Frame} {meth : Method} {c : Code} {b L : Nat} {xs : Nat → Int32} {Q : State → Prop} {D : va_G} {adK adV : Nat → Nat} {cC cF cI cZ cM cS : ClassId} {xa ya : Nat} {ad am : Nat → Nat} {σ : XS} {τ : RS} {H : Heap} {locs : List Loc} {ls : Array Slot} {i : Nat} (C0 : lw_At p s m meth c b L xs) (hK : va_K D vwCl (tysX cC cF cI cZ cM cS) s) (hE : Ev s.heap.size adK adV s s.heap) (hR : RR σ τ) (hP : va_P D vwCl (WX xa ad cC cF cI cZ cM cS σ ++ WM ya am cC cF cI cZ cM cS τ) H) (hD : va_D (fun q : Nat => s.heap.size ≤ q) (WX xa ad cC cF cI cZ cM cS σ ++ WM ya am cC cF cI cZ cM cS τ)) (hS : va_S (fun q : Nat => s.heap.size ≤ q) s.heap H locs) (hi : i + 5 ≤ L) (hL : L ≤ 2560) (hl : lv_has ls 4 [(0, .ref b), (1, .ref xa), (2, .ref ya), (3, .int (nI i))])
    (kk : ∀ (σ' : XS) (τ' : RS) (H' : Heap) (locs' : List Loc), RR σ' τ' → va_P D vwCl (WX xa ad cC cF cI cZ cM cS σ' ++ WM ya am cC cF cI cZ cM cS τ') H' → va_D (fun q : Nat => s.heap.size ≤ q) (WX xa ad cC cF cI cZ cM cS σ' ++ WM ya am cC cF cI cZ cM cS τ') → va_S (fun q : Nat => s.heap.size ≤ q) s.heap H' locs' → W p l e room_1 s m #[Value.ref b] below meth c H' locs' lwC lwS Q (F0 m 999 ls [])) : W p l e room_1 s m #[Value.ref b] below meth c H locs lwC lwS Q (F0 m 352 ls []) := by
  obtain ⟨hx, hb, hr, hml, hown, hts, hX, hbl, hlocks, hgv⟩ := id C0
  have htl : ∀ w ∈ wsL_law, w.before #[Value.ref b] s = true := fun w h => hts w (wsL_law_in w h)
  have hbA : ¬ (fun q : Nat => s.heap.size ≤ q) b := Nat.not_le.mpr hbl
  obtain ⟨v, σ', τ', q1, q2, hR'⟩ := do_step (l := l) (D := D) (B := s.heap.size) (adK := adK) (adV := adV) (cC := cC) (cF := cF) (cI := cI) (cZ := cZ) (cM := cM) (cS := cS) (xa := xa) (ad := ad) (ya := ya) (am := am) hR (xs (i + 1))
  refine lv_aload_n hx hb dL_law_352 rfl (lv_at hl 1 rfl) ?_
  refine lv_aload_n hx hb dL_law_353 rfl (lv_at hl 0 rfl) ?_
  refine lv_iload_n hx hb dL_law_354 rfl (lv_at hl 3 rfl) ?_
  refine lv_iconst (v := nI 1) hx hb dL_law_355 (by decide) ?_
  refine lv_iadd hx hb dL_law_356 ?_
  refine va_sld hx hb hX hbl hbA hS (lw_ix hi hL (show 1 < 5 by omega)).1 dL_law_357 ?_
  rw [(lw_ix hi hL (show 1 < 5 by omega)).2]
  refine xcVw (As := [.int (xs (i + 1))]) (rest := []) ⟨hx, hb, hml, hown, htl⟩ (q1.left (WX_fst xa ad cC cF cI cZ cM cS σ σ') (WM ya am cC cF cI cZ cM cS τ)) (cwV 1 htl gL_law_X5_step rfl rfl rfl (by decide +kernel) ⟨Nat.le_of_ble_eq_true rfl, Nat.le_of_ble_eq_true rfl⟩) (lw_rx hK hP) hK hP hD hS (fun _ h => h) hE (fst_l (WX_fst xa ad cC cF cI cZ cM cS σ σ')) rfl hl.1 rfl (Nat.le_of_ble_eq_true rfl) dL_law_358 ⟨Nat.le_of_ble_eq_true rfl, Nat.le_of_ble_eq_true rfl⟩ (fun H locs hP hD hS => ?_)
  refine lv_aload_n hx hb dL_law_361 rfl (lv_at hl 2 rfl) ?_
  refine lv_aload_n hx hb dL_law_362 rfl (lv_at hl 0 rfl) ?_
  refine lv_iload_n hx hb dL_law_363 rfl (lv_at hl 3 rfl) ?_
  refine lv_iconst (v := nI 1) hx hb dL_law_364 (by decide) ?_
  refine lv_iadd hx hb dL_law_365 ?_
  refine va_sld hx hb hX hbl hbA hS (lw_ix hi hL (show 1 < 5 by omega)).1 dL_law_366 ?_
  rw [(lw_ix hi hL (show 1 < 5 by omega)).2]
  refine xcVw (As := [.int (xs (i + 1))]) (rest := [.int v]) ⟨hx, hb, hml, hown, htl⟩ (q2.right (WM_fst ya am cC cF cI cZ cM cS τ τ') (WX xa ad cC cF cI cZ cM cS σ')) (cwV 1 htl gL_law_X6_step rfl rfl rfl (by decide +kernel) ⟨Nat.le_of_ble_eq_true rfl, Nat.le_of_ble_eq_true rfl⟩) (lw_rm hK hP) hK hP hD hS (fun _ h => h) hE (fst_r (WM_fst ya am cC cF cI cZ cM cS τ τ')) rfl hl.1 rfl (Nat.le_of_ble_eq_true rfl) dL_law_367 ⟨Nat.le_of_ble_eq_true rfl, Nat.le_of_ble_eq_true rfl⟩ (fun H locs hP hD hS => ?_)
  refine lv_icmp_eq (tgt := 999) hx hb dL_law_370 (by decide) (fun _ => kk σ' τ' H locs hR' hP hD hS) (fun z => absurd rfl z)
set_option maxHeartbeats 1000000 in
set_option maxRecDepth 100000 in
theorem lw_c9 {p : Program} {l : Launch} {e : Env} {s : State} {m : MethodId} {below : List Frame} {meth : Method} {c : Code} {b L : Nat} {xs : Nat → Int32} {Q : State → Prop} {D : va_G} {adK adV : Nat → Nat} {cC cF cI cZ cM cS : ClassId} {xa ya : Nat} {ad am : Nat → Nat} {σ : XS} {τ : RS} {H : Heap} {locs : List Loc} {ls : Array Slot} {i : Nat} (C0 : lw_At p s m meth c b L xs) (hK : va_K D vwCl (tysX cC cF cI cZ cM cS) s) (hE : Ev s.heap.size adK adV s s.heap) (hR : RR σ τ) (hP : va_P D vwCl (WX xa ad cC cF cI cZ cM cS σ ++ WM ya am cC cF cI cZ cM cS τ) H) (hD : va_D (fun q : Nat => s.heap.size ≤ q) (WX xa ad cC cF cI cZ cM cS σ ++ WM ya am cC cF cI cZ cM cS τ)) (hS : va_S (fun q : Nat => s.heap.size ≤ q) s.heap H locs) (hi : i + 5 ≤ L) (hL : L ≤ 2560) (hl : lv_has ls 4 [(0, .ref b), (1, .ref xa), (2, .ref ya), (3, .int (nI i))])
    (kk : ∀ (σ' : XS) (τ' : RS) (H' : Heap) (locs' : List Loc), RR σ' τ' → va_P D vwCl (WX xa ad cC cF cI cZ cM cS σ' ++ WM ya am cC cF cI cZ cM cS τ') H' → va_D (fun q : Nat => s.heap.size ≤ q) (WX xa ad cC cF cI cZ cM cS σ' ++ WM ya am cC cF cI cZ cM cS τ') → va_S (fun q : Nat => s.heap.size ≤ q) s.heap H' locs' → W p l e room_1 s m #[Value.ref b] below meth c H' locs' lwC lwS Q (F0 m 999 ls [])) : W p l e room_1 s m #[Value.ref b] below meth c H locs lwC lwS Q (F0 m 375 ls []) := by
  obtain ⟨hx, hb, hr, hml, hown, hts, hX, hbl, hlocks, hgv⟩ := id C0
  have htl : ∀ w ∈ wsL_law, w.before #[Value.ref b] s = true := fun w h => hts w (wsL_law_in w h)
  have hbA : ¬ (fun q : Nat => s.heap.size ≤ q) b := Nat.not_le.mpr hbl
  obtain ⟨v, σ', τ', q1, q2, hR'⟩ := do_undo (l := l) (D := D) (B := s.heap.size) (adK := adK) (adV := adV) (cC := cC) (cF := cF) (cI := cI) (cZ := cZ) (cM := cM) (cS := cS) (xa := xa) (ad := ad) (ya := ya) (am := am) hR
  refine lv_aload_n hx hb dL_law_375 rfl (lv_at hl 1 rfl) ?_
  refine xcVw (As := []) (rest := []) ⟨hx, hb, hml, hown, htl⟩ (q1.left (WX_fst xa ad cC cF cI cZ cM cS σ σ') (WM ya am cC cF cI cZ cM cS τ)) (cwV 0 htl gL_law_X5_undo rfl rfl rfl (by decide +kernel) ⟨Nat.le_of_ble_eq_true rfl, Nat.le_of_ble_eq_true rfl⟩) (lw_rx hK hP) hK hP hD hS (fun _ h => h) hE (fst_l (WX_fst xa ad cC cF cI cZ cM cS σ σ')) rfl hl.1 rfl (Nat.le_of_ble_eq_true rfl) dL_law_376 ⟨Nat.le_of_ble_eq_true rfl, Nat.le_of_ble_eq_true rfl⟩ (fun H locs hP hD hS => ?_)
  refine lv_aload_n hx hb dL_law_379 rfl (lv_at hl 2 rfl) ?_
  refine xcVw (As := []) (rest := [.int v]) ⟨hx, hb, hml, hown, htl⟩ (q2.right (WM_fst ya am cC cF cI cZ cM cS τ τ') (WX xa ad cC cF cI cZ cM cS σ')) (cwV 0 htl gL_law_X6_undo rfl rfl rfl (by decide +kernel) ⟨Nat.le_of_ble_eq_true rfl, Nat.le_of_ble_eq_true rfl⟩) (lw_rm hK hP) hK hP hD hS (fun _ h => h) hE (fst_r (WM_fst ya am cC cF cI cZ cM cS τ τ')) rfl hl.1 rfl (Nat.le_of_ble_eq_true rfl) dL_law_380 ⟨Nat.le_of_ble_eq_true rfl, Nat.le_of_ble_eq_true rfl⟩ (fun H locs hP hD hS => ?_)
  refine lv_icmp_eq (tgt := 999) hx hb dL_law_383 (by decide) (fun _ => kk σ' τ' H locs hR' hP hD hS) (fun z => absurd rfl z)
set_option maxHeartbeats 1000000 in
set_option maxRecDepth 100000 in
theorem lw_c10 {p : Program} {l : Launch} {e : Env} {s : State} {m : MethodId} {below : List Frame} {meth : Method} {c : Code} {b L : Nat} {xs : Nat → Int32} {Q : State → Prop} {D : va_G} {adK adV : Nat → Nat} {cC cF cI cZ cM cS : ClassId} {xa ya : Nat} {ad am : Nat → Nat} {σ : XS} {τ : RS} {H : Heap} {locs : List Loc} {ls : Array Slot} {i : Nat} (C0 : lw_At p s m meth c b L xs) (hK : va_K D vwCl (tysX cC cF cI cZ cM cS) s) (hE : Ev s.heap.size adK adV s s.heap) (hR : RR σ τ) (hP : va_P D vwCl (WX xa ad cC cF cI cZ cM cS σ ++ WM ya am cC cF cI cZ cM cS τ) H) (hD : va_D (fun q : Nat => s.heap.size ≤ q) (WX xa ad cC cF cI cZ cM cS σ ++ WM ya am cC cF cI cZ cM cS τ)) (hS : va_S (fun q : Nat => s.heap.size ≤ q) s.heap H locs) (hi : i + 5 ≤ L) (hL : L ≤ 2560) (hl : lv_has ls 4 [(0, .ref b), (1, .ref xa), (2, .ref ya), (3, .int (nI i))])
    (kk : ∀ (σ' : XS) (τ' : RS) (H' : Heap) (locs' : List Loc), RR σ' τ' → va_P D vwCl (WX xa ad cC cF cI cZ cM cS σ' ++ WM ya am cC cF cI cZ cM cS τ') H' → va_D (fun q : Nat => s.heap.size ≤ q) (WX xa ad cC cF cI cZ cM cS σ' ++ WM ya am cC cF cI cZ cM cS τ') → va_S (fun q : Nat => s.heap.size ≤ q) s.heap H' locs' → W p l e room_1 s m #[Value.ref b] below meth c H' locs' lwC lwS Q (F0 m 999 ls [])) : W p l e room_1 s m #[Value.ref b] below meth c H locs lwC lwS Q (F0 m 388 ls []) := by
  obtain ⟨hx, hb, hr, hml, hown, hts, hX, hbl, hlocks, hgv⟩ := id C0
  have htl : ∀ w ∈ wsL_law, w.before #[Value.ref b] s = true := fun w h => hts w (wsL_law_in w h)
  have hbA : ¬ (fun q : Nat => s.heap.size ≤ q) b := Nat.not_le.mpr hbl
  obtain ⟨v, σ', τ', q1, q2, hR'⟩ := do_keep (l := l) (D := D) (B := s.heap.size) (adK := adK) (adV := adV) (cC := cC) (cF := cF) (cI := cI) (cZ := cZ) (cM := cM) (cS := cS) (xa := xa) (ad := ad) (ya := ya) (am := am) hR (xs (i + 1))
  refine lv_aload_n hx hb dL_law_388 rfl (lv_at hl 1 rfl) ?_
  refine lv_aload_n hx hb dL_law_389 rfl (lv_at hl 0 rfl) ?_
  refine lv_iload_n hx hb dL_law_390 rfl (lv_at hl 3 rfl) ?_
  refine lv_iconst (v := nI 1) hx hb dL_law_391 (by decide) ?_
  refine lv_iadd hx hb dL_law_392 ?_
  refine va_sld hx hb hX hbl hbA hS (lw_ix hi hL (show 1 < 5 by omega)).1 dL_law_393 ?_
  rw [(lw_ix hi hL (show 1 < 5 by omega)).2]
  refine xcVw (As := [.int (xs (i + 1))]) (rest := []) ⟨hx, hb, hml, hown, htl⟩ (q1.left (WX_fst xa ad cC cF cI cZ cM cS σ σ') (WM ya am cC cF cI cZ cM cS τ)) (cwV 1 htl gL_law_X5_keep rfl rfl rfl (by decide +kernel) ⟨Nat.le_of_ble_eq_true rfl, Nat.le_of_ble_eq_true rfl⟩) (lw_rx hK hP) hK hP hD hS (fun _ h => h) hE (fst_l (WX_fst xa ad cC cF cI cZ cM cS σ σ')) rfl hl.1 rfl (Nat.le_of_ble_eq_true rfl) dL_law_394 ⟨Nat.le_of_ble_eq_true rfl, Nat.le_of_ble_eq_true rfl⟩ (fun H locs hP hD hS => ?_)
  refine lv_aload_n hx hb dL_law_397 rfl (lv_at hl 2 rfl) ?_
  refine lv_aload_n hx hb dL_law_398 rfl (lv_at hl 0 rfl) ?_
  refine lv_iload_n hx hb dL_law_399 rfl (lv_at hl 3 rfl) ?_
  refine lv_iconst (v := nI 1) hx hb dL_law_400 (by decide) ?_
  refine lv_iadd hx hb dL_law_401 ?_
  refine va_sld hx hb hX hbl hbA hS (lw_ix hi hL (show 1 < 5 by omega)).1 dL_law_402 ?_
  rw [(lw_ix hi hL (show 1 < 5 by omega)).2]
  refine xcVw (As := [.int (xs (i + 1))]) (rest := [.int v]) ⟨hx, hb, hml, hown, htl⟩ (q2.right (WM_fst ya am cC cF cI cZ cM cS τ τ') (WX xa ad cC cF cI cZ cM cS σ')) (cwV 1 htl gL_law_X6_keep rfl rfl rfl (by decide +kernel) ⟨Nat.le_of_ble_eq_true rfl, Nat.le_of_ble_eq_true rfl⟩) (lw_rm hK hP) hK hP hD hS (fun _ h => h) hE (fst_r (WM_fst ya am cC cF cI cZ cM cS τ τ')) rfl hl.1 rfl (Nat.le_of_ble_eq_true rfl) dL_law_403 ⟨Nat.le_of_ble_eq_true rfl, Nat.le_of_ble_eq_true rfl⟩ (fun H locs hP hD hS => ?_)
  refine lv_icmp_eq (tgt := 999) hx hb dL_law_406 (by decide) (fun _ => kk σ' τ' H locs hR' hP hD hS) (fun z => absurd rfl z)
set_option maxHeartbeats 1000000 in
set_option maxRecDepth 100000 in
theorem lw_c11 {p : Program} {l : Launch} {e : Env} {s : State} {m : MethodId} {below : List Frame} {meth : Method} {c : Code} {b L : Nat} {xs : Nat → Int32} {Q : State → Prop} {D : va_G} {adK adV : Nat → Nat} {cC cF cI cZ cM cS : ClassId} {xa ya : Nat} {ad am : Nat → Nat} {σ : XS} {τ : RS} {H : Heap} {locs : List Loc} {ls : Array Slot} {i : Nat} (C0 : lw_At p s m meth c b L xs) (hK : va_K D vwCl (tysX cC cF cI cZ cM cS) s) (hE : Ev s.heap.size adK adV s s.heap) (hR : RR σ τ) (hP : va_P D vwCl (WX xa ad cC cF cI cZ cM cS σ ++ WM ya am cC cF cI cZ cM cS τ) H) (hD : va_D (fun q : Nat => s.heap.size ≤ q) (WX xa ad cC cF cI cZ cM cS σ ++ WM ya am cC cF cI cZ cM cS τ)) (hS : va_S (fun q : Nat => s.heap.size ≤ q) s.heap H locs) (hi : i + 5 ≤ L) (hL : L ≤ 2560) (hl : lv_has ls 4 [(0, .ref b), (1, .ref xa), (2, .ref ya), (3, .int (nI i))])
    (kk : ∀ (σ' : XS) (τ' : RS) (H' : Heap) (locs' : List Loc), RR σ' τ' → va_P D vwCl (WX xa ad cC cF cI cZ cM cS σ' ++ WM ya am cC cF cI cZ cM cS τ') H' → va_D (fun q : Nat => s.heap.size ≤ q) (WX xa ad cC cF cI cZ cM cS σ' ++ WM ya am cC cF cI cZ cM cS τ') → va_S (fun q : Nat => s.heap.size ≤ q) s.heap H' locs' → W p l e room_1 s m #[Value.ref b] below meth c H' locs' lwC lwS Q (F0 m 999 ls [])) : W p l e room_1 s m #[Value.ref b] below meth c H locs lwC lwS Q (F0 m 411 ls []) := by
  obtain ⟨hx, hb, hr, hml, hown, hts, hX, hbl, hlocks, hgv⟩ := id C0
  have htl : ∀ w ∈ wsL_law, w.before #[Value.ref b] s = true := fun w h => hts w (wsL_law_in w h)
  have hbA : ¬ (fun q : Nat => s.heap.size ≤ q) b := Nat.not_le.mpr hbl
  obtain ⟨v, σ', τ', q1, q2, hR'⟩ := do_back (l := l) (D := D) (B := s.heap.size) (adK := adK) (adV := adV) (cC := cC) (cF := cF) (cI := cI) (cZ := cZ) (cM := cM) (cS := cS) (xa := xa) (ad := ad) (ya := ya) (am := am) hR (xs (i + 1))
  refine lv_aload_n hx hb dL_law_411 rfl (lv_at hl 1 rfl) ?_
  refine lv_aload_n hx hb dL_law_412 rfl (lv_at hl 0 rfl) ?_
  refine lv_iload_n hx hb dL_law_413 rfl (lv_at hl 3 rfl) ?_
  refine lv_iconst (v := nI 1) hx hb dL_law_414 (by decide) ?_
  refine lv_iadd hx hb dL_law_415 ?_
  refine va_sld hx hb hX hbl hbA hS (lw_ix hi hL (show 1 < 5 by omega)).1 dL_law_416 ?_
  rw [(lw_ix hi hL (show 1 < 5 by omega)).2]
  refine xcVw (As := [.int (xs (i + 1))]) (rest := []) ⟨hx, hb, hml, hown, htl⟩ (q1.left (WX_fst xa ad cC cF cI cZ cM cS σ σ') (WM ya am cC cF cI cZ cM cS τ)) (cwV 1 htl gL_law_X5_back rfl rfl rfl (by decide +kernel) ⟨Nat.le_of_ble_eq_true rfl, Nat.le_of_ble_eq_true rfl⟩) (lw_rx hK hP) hK hP hD hS (fun _ h => h) hE (fst_l (WX_fst xa ad cC cF cI cZ cM cS σ σ')) rfl hl.1 rfl (Nat.le_of_ble_eq_true rfl) dL_law_417 ⟨Nat.le_of_ble_eq_true rfl, Nat.le_of_ble_eq_true rfl⟩ (fun H locs hP hD hS => ?_)
  refine lv_aload_n hx hb dL_law_420 rfl (lv_at hl 2 rfl) ?_
  refine lv_aload_n hx hb dL_law_421 rfl (lv_at hl 0 rfl) ?_
  refine lv_iload_n hx hb dL_law_422 rfl (lv_at hl 3 rfl) ?_
  refine lv_iconst (v := nI 1) hx hb dL_law_423 (by decide) ?_
  refine lv_iadd hx hb dL_law_424 ?_
  refine va_sld hx hb hX hbl hbA hS (lw_ix hi hL (show 1 < 5 by omega)).1 dL_law_425 ?_
  rw [(lw_ix hi hL (show 1 < 5 by omega)).2]
  refine xcVw (As := [.int (xs (i + 1))]) (rest := [.int v]) ⟨hx, hb, hml, hown, htl⟩ (q2.right (WM_fst ya am cC cF cI cZ cM cS τ τ') (WX xa ad cC cF cI cZ cM cS σ')) (cwV 1 htl gL_law_X6_back rfl rfl rfl (by decide +kernel) ⟨Nat.le_of_ble_eq_true rfl, Nat.le_of_ble_eq_true rfl⟩) (lw_rm hK hP) hK hP hD hS (fun _ h => h) hE (fst_r (WM_fst ya am cC cF cI cZ cM cS τ τ')) rfl hl.1 rfl (Nat.le_of_ble_eq_true rfl) dL_law_426 ⟨Nat.le_of_ble_eq_true rfl, Nat.le_of_ble_eq_true rfl⟩ (fun H locs hP hD hS => ?_)
  refine lv_icmp_eq (tgt := 999) hx hb dL_law_429 (by decide) (fun _ => kk σ' τ' H locs hR' hP hD hS) (fun z => absurd rfl z)
set_option maxHeartbeats 1000000 in
set_option maxRecDepth 100000 in
theorem lw_c12 {p : Program} {l : Launch} {e : Env} {s : State} {m : MethodId} {below : List Frame} {meth : Method} {c : Code} {b L : Nat} {xs : Nat → Int32} {Q : State → Prop} {D : va_G} {adK adV : Nat → Nat} {cC cF cI cZ cM cS : ClassId} {xa ya : Nat} {ad am : Nat → Nat} {σ : XS} {τ : RS} {H : Heap} {locs : List Loc} {ls : Array Slot} {i : Nat} (C0 : lw_At p s m meth c b L xs) (hK : va_K D vwCl (tysX cC cF cI cZ cM cS) s) (hE : Ev s.heap.size adK adV s s.heap) (hR : RR σ τ) (hP : va_P D vwCl (WX xa ad cC cF cI cZ cM cS σ ++ WM ya am cC cF cI cZ cM cS τ) H) (hD : va_D (fun q : Nat => s.heap.size ≤ q) (WX xa ad cC cF cI cZ cM cS σ ++ WM ya am cC cF cI cZ cM cS τ)) (hS : va_S (fun q : Nat => s.heap.size ≤ q) s.heap H locs) (hi : i + 5 ≤ L) (hL : L ≤ 2560) (hl : lv_has ls 4 [(0, .ref b), (1, .ref xa), (2, .ref ya), (3, .int (nI i))])
    (kk : ∀ (σ' : XS) (τ' : RS) (H' : Heap) (locs' : List Loc), RR σ' τ' → va_P D vwCl (WX xa ad cC cF cI cZ cM cS σ' ++ WM ya am cC cF cI cZ cM cS τ') H' → va_D (fun q : Nat => s.heap.size ≤ q) (WX xa ad cC cF cI cZ cM cS σ' ++ WM ya am cC cF cI cZ cM cS τ') → va_S (fun q : Nat => s.heap.size ≤ q) s.heap H' locs' → W p l e room_1 s m #[Value.ref b] below meth c H' locs' lwC lwS Q (F0 m 999 ls [])) : W p l e room_1 s m #[Value.ref b] below meth c H locs lwC lwS Q (F0 m 434 ls []) := by
  obtain ⟨hx, hb, hr, hml, hown, hts, hX, hbl, hlocks, hgv⟩ := id C0
  have htl : ∀ w ∈ wsL_law, w.before #[Value.ref b] s = true := fun w h => hts w (wsL_law_in w h)
  have hbA : ¬ (fun q : Nat => s.heap.size ≤ q) b := Nat.not_le.mpr hbl
  obtain ⟨v, σ', τ', q1, q2, hR'⟩ := do_layer (l := l) (D := D) (B := s.heap.size) (adK := adK) (adV := adV) (cC := cC) (cF := cF) (cI := cI) (cZ := cZ) (cM := cM) (cS := cS) (xa := xa) (ad := ad) (ya := ya) (am := am) hR (xs (i + 1)) (xs (i + 2))
  refine lv_aload_n hx hb dL_law_434 rfl (lv_at hl 1 rfl) ?_
  refine lv_aload_n hx hb dL_law_435 rfl (lv_at hl 0 rfl) ?_
  refine lv_iload_n hx hb dL_law_436 rfl (lv_at hl 3 rfl) ?_
  refine lv_iconst (v := nI 1) hx hb dL_law_437 (by decide) ?_
  refine lv_iadd hx hb dL_law_438 ?_
  refine va_sld hx hb hX hbl hbA hS (lw_ix hi hL (show 1 < 5 by omega)).1 dL_law_439 ?_
  rw [(lw_ix hi hL (show 1 < 5 by omega)).2]
  refine lv_aload_n hx hb dL_law_440 rfl (lv_at hl 0 rfl) ?_
  refine lv_iload_n hx hb dL_law_441 rfl (lv_at hl 3 rfl) ?_
  refine lv_iconst (v := nI 2) hx hb dL_law_442 (by decide) ?_
  refine lv_iadd hx hb dL_law_443 ?_
  refine va_sld hx hb hX hbl hbA hS (lw_ix hi hL (show 2 < 5 by omega)).1 dL_law_444 ?_
  rw [(lw_ix hi hL (show 2 < 5 by omega)).2]
  refine xcVw (As := [.int (xs (i + 1)), .int (xs (i + 2))]) (rest := []) ⟨hx, hb, hml, hown, htl⟩ (q1.left (WX_fst xa ad cC cF cI cZ cM cS σ σ') (WM ya am cC cF cI cZ cM cS τ)) (cwV 2 htl gL_law_X5_layer rfl rfl rfl (by decide +kernel) ⟨Nat.le_of_ble_eq_true rfl, Nat.le_of_ble_eq_true rfl⟩) (lw_rx hK hP) hK hP hD hS (fun _ h => h) hE (fst_l (WX_fst xa ad cC cF cI cZ cM cS σ σ')) rfl hl.1 rfl (Nat.le_of_ble_eq_true rfl) dL_law_445 ⟨Nat.le_of_ble_eq_true rfl, Nat.le_of_ble_eq_true rfl⟩ (fun H locs hP hD hS => ?_)
  refine lv_aload_n hx hb dL_law_448 rfl (lv_at hl 2 rfl) ?_
  refine lv_aload_n hx hb dL_law_449 rfl (lv_at hl 0 rfl) ?_
  refine lv_iload_n hx hb dL_law_450 rfl (lv_at hl 3 rfl) ?_
  refine lv_iconst (v := nI 1) hx hb dL_law_451 (by decide) ?_
  refine lv_iadd hx hb dL_law_452 ?_
  refine va_sld hx hb hX hbl hbA hS (lw_ix hi hL (show 1 < 5 by omega)).1 dL_law_453 ?_
  rw [(lw_ix hi hL (show 1 < 5 by omega)).2]
  refine lv_aload_n hx hb dL_law_454 rfl (lv_at hl 0 rfl) ?_
  refine lv_iload_n hx hb dL_law_455 rfl (lv_at hl 3 rfl) ?_
  refine lv_iconst (v := nI 2) hx hb dL_law_456 (by decide) ?_
  refine lv_iadd hx hb dL_law_457 ?_
  refine va_sld hx hb hX hbl hbA hS (lw_ix hi hL (show 2 < 5 by omega)).1 dL_law_458 ?_
  rw [(lw_ix hi hL (show 2 < 5 by omega)).2]
  refine xcVw (As := [.int (xs (i + 1)), .int (xs (i + 2))]) (rest := [.int v]) ⟨hx, hb, hml, hown, htl⟩ (q2.right (WM_fst ya am cC cF cI cZ cM cS τ τ') (WX xa ad cC cF cI cZ cM cS σ')) (cwV 2 htl gL_law_X6_layer rfl rfl rfl (by decide +kernel) ⟨Nat.le_of_ble_eq_true rfl, Nat.le_of_ble_eq_true rfl⟩) (lw_rm hK hP) hK hP hD hS (fun _ h => h) hE (fst_r (WM_fst ya am cC cF cI cZ cM cS τ τ')) rfl hl.1 rfl (Nat.le_of_ble_eq_true rfl) dL_law_459 ⟨Nat.le_of_ble_eq_true rfl, Nat.le_of_ble_eq_true rfl⟩ (fun H locs hP hD hS => ?_)
  refine lv_icmp_eq (tgt := 999) hx hb dL_law_462 (by decide) (fun _ => kk σ' τ' H locs hR' hP hD hS) (fun z => absurd rfl z)
set_option maxHeartbeats 1000000 in
set_option maxRecDepth 100000 in
theorem lw_c13 {p : Program} {l : Launch} {e : Env} {s : State} {m : MethodId} {below : List Frame} {meth : Method} {c : Code} {b L : Nat} {xs : Nat → Int32} {Q : State → Prop} {D : va_G} {adK adV : Nat → Nat} {cC cF cI cZ cM cS : ClassId} {xa ya : Nat} {ad am : Nat → Nat} {σ : XS} {τ : RS} {H : Heap} {locs : List Loc} {ls : Array Slot} {i : Nat} (C0 : lw_At p s m meth c b L xs) (hK : va_K D vwCl (tysX cC cF cI cZ cM cS) s) (hE : Ev s.heap.size adK adV s s.heap) (hR : RR σ τ) (hP : va_P D vwCl (WX xa ad cC cF cI cZ cM cS σ ++ WM ya am cC cF cI cZ cM cS τ) H) (hD : va_D (fun q : Nat => s.heap.size ≤ q) (WX xa ad cC cF cI cZ cM cS σ ++ WM ya am cC cF cI cZ cM cS τ)) (hS : va_S (fun q : Nat => s.heap.size ≤ q) s.heap H locs) (hi : i + 5 ≤ L) (hL : L ≤ 2560) (hl : lv_has ls 4 [(0, .ref b), (1, .ref xa), (2, .ref ya), (3, .int (nI i))])
    (kk : ∀ (σ' : XS) (τ' : RS) (H' : Heap) (locs' : List Loc), RR σ' τ' → va_P D vwCl (WX xa ad cC cF cI cZ cM cS σ' ++ WM ya am cC cF cI cZ cM cS τ') H' → va_D (fun q : Nat => s.heap.size ≤ q) (WX xa ad cC cF cI cZ cM cS σ' ++ WM ya am cC cF cI cZ cM cS τ') → va_S (fun q : Nat => s.heap.size ≤ q) s.heap H' locs' → W p l e room_1 s m #[Value.ref b] below meth c H' locs' lwC lwS Q (F0 m 999 ls [])) : W p l e room_1 s m #[Value.ref b] below meth c H locs lwC lwS Q (F0 m 467 ls []) := by
  obtain ⟨hx, hb, hr, hml, hown, hts, hX, hbl, hlocks, hgv⟩ := id C0
  have htl : ∀ w ∈ wsL_law, w.before #[Value.ref b] s = true := fun w h => hts w (wsL_law_in w h)
  have hbA : ¬ (fun q : Nat => s.heap.size ≤ q) b := Nat.not_le.mpr hbl
  obtain ⟨v, σ', τ', q1, q2, hR'⟩ := do_share (l := l) (D := D) (B := s.heap.size) (adK := adK) (adV := adV) (cC := cC) (cF := cF) (cI := cI) (cZ := cZ) (cM := cM) (cS := cS) (xa := xa) (ad := ad) (ya := ya) (am := am) hR (xs (i + 1)) (xs (i + 2))
  refine lv_aload_n hx hb dL_law_467 rfl (lv_at hl 1 rfl) ?_
  refine lv_aload_n hx hb dL_law_468 rfl (lv_at hl 0 rfl) ?_
  refine lv_iload_n hx hb dL_law_469 rfl (lv_at hl 3 rfl) ?_
  refine lv_iconst (v := nI 1) hx hb dL_law_470 (by decide) ?_
  refine lv_iadd hx hb dL_law_471 ?_
  refine va_sld hx hb hX hbl hbA hS (lw_ix hi hL (show 1 < 5 by omega)).1 dL_law_472 ?_
  rw [(lw_ix hi hL (show 1 < 5 by omega)).2]
  refine lv_aload_n hx hb dL_law_473 rfl (lv_at hl 0 rfl) ?_
  refine lv_iload_n hx hb dL_law_474 rfl (lv_at hl 3 rfl) ?_
  refine lv_iconst (v := nI 2) hx hb dL_law_475 (by decide) ?_
  refine lv_iadd hx hb dL_law_476 ?_
  refine va_sld hx hb hX hbl hbA hS (lw_ix hi hL (show 2 < 5 by omega)).1 dL_law_477 ?_
  rw [(lw_ix hi hL (show 2 < 5 by omega)).2]
  refine xcVw (As := [.int (xs (i + 1)), .int (xs (i + 2))]) (rest := []) ⟨hx, hb, hml, hown, htl⟩ (q1.left (WX_fst xa ad cC cF cI cZ cM cS σ σ') (WM ya am cC cF cI cZ cM cS τ)) (cwV 2 htl gL_law_X5_share rfl rfl rfl (by decide +kernel) ⟨Nat.le_of_ble_eq_true rfl, Nat.le_of_ble_eq_true rfl⟩) (lw_rx hK hP) hK hP hD hS (fun _ h => h) hE (fst_l (WX_fst xa ad cC cF cI cZ cM cS σ σ')) rfl hl.1 rfl (Nat.le_of_ble_eq_true rfl) dL_law_478 ⟨Nat.le_of_ble_eq_true rfl, Nat.le_of_ble_eq_true rfl⟩ (fun H locs hP hD hS => ?_)
  refine lv_aload_n hx hb dL_law_481 rfl (lv_at hl 2 rfl) ?_
  refine lv_aload_n hx hb dL_law_482 rfl (lv_at hl 0 rfl) ?_
  refine lv_iload_n hx hb dL_law_483 rfl (lv_at hl 3 rfl) ?_
  refine lv_iconst (v := nI 1) hx hb dL_law_484 (by decide) ?_
  refine lv_iadd hx hb dL_law_485 ?_
  refine va_sld hx hb hX hbl hbA hS (lw_ix hi hL (show 1 < 5 by omega)).1 dL_law_486 ?_
  rw [(lw_ix hi hL (show 1 < 5 by omega)).2]
  refine lv_aload_n hx hb dL_law_487 rfl (lv_at hl 0 rfl) ?_
  refine lv_iload_n hx hb dL_law_488 rfl (lv_at hl 3 rfl) ?_
  refine lv_iconst (v := nI 2) hx hb dL_law_489 (by decide) ?_
  refine lv_iadd hx hb dL_law_490 ?_
  refine va_sld hx hb hX hbl hbA hS (lw_ix hi hL (show 2 < 5 by omega)).1 dL_law_491 ?_
  rw [(lw_ix hi hL (show 2 < 5 by omega)).2]
  refine xcVw (As := [.int (xs (i + 1)), .int (xs (i + 2))]) (rest := [.int v]) ⟨hx, hb, hml, hown, htl⟩ (q2.right (WM_fst ya am cC cF cI cZ cM cS τ τ') (WX xa ad cC cF cI cZ cM cS σ')) (cwV 2 htl gL_law_X6_share rfl rfl rfl (by decide +kernel) ⟨Nat.le_of_ble_eq_true rfl, Nat.le_of_ble_eq_true rfl⟩) (lw_rm hK hP) hK hP hD hS (fun _ h => h) hE (fst_r (WM_fst ya am cC cF cI cZ cM cS τ τ')) rfl hl.1 rfl (Nat.le_of_ble_eq_true rfl) dL_law_492 ⟨Nat.le_of_ble_eq_true rfl, Nat.le_of_ble_eq_true rfl⟩ (fun H locs hP hD hS => ?_)
  refine lv_icmp_eq (tgt := 999) hx hb dL_law_495 (by decide) (fun _ => kk σ' τ' H locs hR' hP hD hS) (fun z => absurd rfl z)
set_option maxHeartbeats 1000000 in
set_option maxRecDepth 100000 in
theorem lw_c14 {p : Program} {l : Launch} {e : Env} {s : State} {m : MethodId} {below : List Frame} {meth : Method} {c : Code} {b L : Nat} {xs : Nat → Int32} {Q : State → Prop} {D : va_G} {adK adV : Nat → Nat} {cC cF cI cZ cM cS : ClassId} {xa ya : Nat} {ad am : Nat → Nat} {σ : XS} {τ : RS} {H : Heap} {locs : List Loc} {ls : Array Slot} {i : Nat} (C0 : lw_At p s m meth c b L xs) (hK : va_K D vwCl (tysX cC cF cI cZ cM cS) s) (hE : Ev s.heap.size adK adV s s.heap) (hR : RR σ τ) (hP : va_P D vwCl (WX xa ad cC cF cI cZ cM cS σ ++ WM ya am cC cF cI cZ cM cS τ) H) (hD : va_D (fun q : Nat => s.heap.size ≤ q) (WX xa ad cC cF cI cZ cM cS σ ++ WM ya am cC cF cI cZ cM cS τ)) (hS : va_S (fun q : Nat => s.heap.size ≤ q) s.heap H locs) (hi : i + 5 ≤ L) (hL : L ≤ 2560) (hl : lv_has ls 4 [(0, .ref b), (1, .ref xa), (2, .ref ya), (3, .int (nI i))])
    (kk : ∀ (σ' : XS) (τ' : RS) (H' : Heap) (locs' : List Loc), RR σ' τ' → va_P D vwCl (WX xa ad cC cF cI cZ cM cS σ' ++ WM ya am cC cF cI cZ cM cS τ') H' → va_D (fun q : Nat => s.heap.size ≤ q) (WX xa ad cC cF cI cZ cM cS σ' ++ WM ya am cC cF cI cZ cM cS τ') → va_S (fun q : Nat => s.heap.size ≤ q) s.heap H' locs' → W p l e room_1 s m #[Value.ref b] below meth c H' locs' lwC lwS Q (F0 m 999 ls [])) : W p l e room_1 s m #[Value.ref b] below meth c H locs lwC lwS Q (F0 m 500 ls []) := by
  obtain ⟨hx, hb, hr, hml, hown, hts, hX, hbl, hlocks, hgv⟩ := id C0
  have htl : ∀ w ∈ wsL_law, w.before #[Value.ref b] s = true := fun w h => hts w (wsL_law_in w h)
  have hbA : ¬ (fun q : Nat => s.heap.size ≤ q) b := Nat.not_le.mpr hbl
  obtain ⟨v, σ', τ', q1, q2, hR'⟩ := do_bits (l := l) (D := D) (B := s.heap.size) (adK := adK) (adV := adV) (cC := cC) (cF := cF) (cI := cI) (cZ := cZ) (cM := cM) (cS := cS) (xa := xa) (ad := ad) (ya := ya) (am := am) hR (xs (i + 1)) (xs (i + 2))
  refine lv_aload_n hx hb dL_law_500 rfl (lv_at hl 1 rfl) ?_
  refine lv_aload_n hx hb dL_law_501 rfl (lv_at hl 0 rfl) ?_
  refine lv_iload_n hx hb dL_law_502 rfl (lv_at hl 3 rfl) ?_
  refine lv_iconst (v := nI 1) hx hb dL_law_503 (by decide) ?_
  refine lv_iadd hx hb dL_law_504 ?_
  refine va_sld hx hb hX hbl hbA hS (lw_ix hi hL (show 1 < 5 by omega)).1 dL_law_505 ?_
  rw [(lw_ix hi hL (show 1 < 5 by omega)).2]
  refine lv_aload_n hx hb dL_law_506 rfl (lv_at hl 0 rfl) ?_
  refine lv_iload_n hx hb dL_law_507 rfl (lv_at hl 3 rfl) ?_
  refine lv_iconst (v := nI 2) hx hb dL_law_508 (by decide) ?_
  refine lv_iadd hx hb dL_law_509 ?_
  refine va_sld hx hb hX hbl hbA hS (lw_ix hi hL (show 2 < 5 by omega)).1 dL_law_510 ?_
  rw [(lw_ix hi hL (show 2 < 5 by omega)).2]
  refine xcVw (As := [.int (xs (i + 1)), .int (xs (i + 2))]) (rest := []) ⟨hx, hb, hml, hown, htl⟩ (q1.left (WX_fst xa ad cC cF cI cZ cM cS σ σ') (WM ya am cC cF cI cZ cM cS τ)) (cwV 2 htl gL_law_X5_bits rfl rfl rfl (by decide +kernel) ⟨Nat.le_of_ble_eq_true rfl, Nat.le_of_ble_eq_true rfl⟩) (lw_rx hK hP) hK hP hD hS (fun _ h => h) hE (fst_l (WX_fst xa ad cC cF cI cZ cM cS σ σ')) rfl hl.1 rfl (Nat.le_of_ble_eq_true rfl) dL_law_511 ⟨Nat.le_of_ble_eq_true rfl, Nat.le_of_ble_eq_true rfl⟩ (fun H locs hP hD hS => ?_)
  refine lv_aload_n hx hb dL_law_514 rfl (lv_at hl 2 rfl) ?_
  refine lv_aload_n hx hb dL_law_515 rfl (lv_at hl 0 rfl) ?_
  refine lv_iload_n hx hb dL_law_516 rfl (lv_at hl 3 rfl) ?_
  refine lv_iconst (v := nI 1) hx hb dL_law_517 (by decide) ?_
  refine lv_iadd hx hb dL_law_518 ?_
  refine va_sld hx hb hX hbl hbA hS (lw_ix hi hL (show 1 < 5 by omega)).1 dL_law_519 ?_
  rw [(lw_ix hi hL (show 1 < 5 by omega)).2]
  refine lv_aload_n hx hb dL_law_520 rfl (lv_at hl 0 rfl) ?_
  refine lv_iload_n hx hb dL_law_521 rfl (lv_at hl 3 rfl) ?_
  refine lv_iconst (v := nI 2) hx hb dL_law_522 (by decide) ?_
  refine lv_iadd hx hb dL_law_523 ?_
  refine va_sld hx hb hX hbl hbA hS (lw_ix hi hL (show 2 < 5 by omega)).1 dL_law_524 ?_
  rw [(lw_ix hi hL (show 2 < 5 by omega)).2]
  refine xcVw (As := [.int (xs (i + 1)), .int (xs (i + 2))]) (rest := [.int v]) ⟨hx, hb, hml, hown, htl⟩ (q2.right (WM_fst ya am cC cF cI cZ cM cS τ τ') (WX xa ad cC cF cI cZ cM cS σ')) (cwV 2 htl gL_law_X6_bits rfl rfl rfl (by decide +kernel) ⟨Nat.le_of_ble_eq_true rfl, Nat.le_of_ble_eq_true rfl⟩) (lw_rm hK hP) hK hP hD hS (fun _ h => h) hE (fst_r (WM_fst ya am cC cF cI cZ cM cS τ τ')) rfl hl.1 rfl (Nat.le_of_ble_eq_true rfl) dL_law_525 ⟨Nat.le_of_ble_eq_true rfl, Nat.le_of_ble_eq_true rfl⟩ (fun H locs hP hD hS => ?_)
  refine lv_icmp_eq (tgt := 999) hx hb dL_law_528 (by decide) (fun _ => kk σ' τ' H locs hR' hP hD hS) (fun z => absurd rfl z)
set_option maxHeartbeats 1000000 in
set_option maxRecDepth 100000 in
theorem lw_c15 {p : Program} {l : Launch} {e : Env} {s : State} {m : MethodId} {below : List Frame} {meth : Method} {c : Code} {b L : Nat} {xs : Nat → Int32} {Q : State → Prop} {D : va_G} {adK adV : Nat → Nat} {cC cF cI cZ cM cS : ClassId} {xa ya : Nat} {ad am : Nat → Nat} {σ : XS} {τ : RS} {H : Heap} {locs : List Loc} {ls : Array Slot} {i : Nat} (C0 : lw_At p s m meth c b L xs) (hK : va_K D vwCl (tysX cC cF cI cZ cM cS) s) (hE : Ev s.heap.size adK adV s s.heap) (hR : RR σ τ) (hP : va_P D vwCl (WX xa ad cC cF cI cZ cM cS σ ++ WM ya am cC cF cI cZ cM cS τ) H) (hD : va_D (fun q : Nat => s.heap.size ≤ q) (WX xa ad cC cF cI cZ cM cS σ ++ WM ya am cC cF cI cZ cM cS τ)) (hS : va_S (fun q : Nat => s.heap.size ≤ q) s.heap H locs) (hi : i + 5 ≤ L) (hL : L ≤ 2560) (hl : lv_has ls 4 [(0, .ref b), (1, .ref xa), (2, .ref ya), (3, .int (nI i))])
    (kk : ∀ (σ' : XS) (τ' : RS) (H' : Heap) (locs' : List Loc), RR σ' τ' → va_P D vwCl (WX xa ad cC cF cI cZ cM cS σ' ++ WM ya am cC cF cI cZ cM cS τ') H' → va_D (fun q : Nat => s.heap.size ≤ q) (WX xa ad cC cF cI cZ cM cS σ' ++ WM ya am cC cF cI cZ cM cS τ') → va_S (fun q : Nat => s.heap.size ≤ q) s.heap H' locs' → W p l e room_1 s m #[Value.ref b] below meth c H' locs' lwC lwS Q (F0 m 999 ls [])) : W p l e room_1 s m #[Value.ref b] below meth c H locs lwC lwS Q (F0 m 533 ls []) := by
  obtain ⟨hx, hb, hr, hml, hown, hts, hX, hbl, hlocks, hgv⟩ := id C0
  have htl : ∀ w ∈ wsL_law, w.before #[Value.ref b] s = true := fun w h => hts w (wsL_law_in w h)
  have hbA : ¬ (fun q : Nat => s.heap.size ≤ q) b := Nat.not_le.mpr hbl
  obtain ⟨v, σ', τ', q1, q2, hR'⟩ := do_limb (l := l) (D := D) (B := s.heap.size) (adK := adK) (adV := adV) (cC := cC) (cF := cF) (cI := cI) (cZ := cZ) (cM := cM) (cS := cS) (xa := xa) (ad := ad) (ya := ya) (am := am) hR (xs (i + 1))
  refine lv_aload_n hx hb dL_law_533 rfl (lv_at hl 1 rfl) ?_
  refine lv_aload_n hx hb dL_law_534 rfl (lv_at hl 0 rfl) ?_
  refine lv_iload_n hx hb dL_law_535 rfl (lv_at hl 3 rfl) ?_
  refine lv_iconst (v := nI 1) hx hb dL_law_536 (by decide) ?_
  refine lv_iadd hx hb dL_law_537 ?_
  refine va_sld hx hb hX hbl hbA hS (lw_ix hi hL (show 1 < 5 by omega)).1 dL_law_538 ?_
  rw [(lw_ix hi hL (show 1 < 5 by omega)).2]
  refine xcVw (As := [.int (xs (i + 1))]) (rest := []) ⟨hx, hb, hml, hown, htl⟩ (q1.left (WX_fst xa ad cC cF cI cZ cM cS σ σ') (WM ya am cC cF cI cZ cM cS τ)) (cwV 1 htl gL_law_X5_limb rfl rfl rfl (by decide +kernel) ⟨Nat.le_of_ble_eq_true rfl, Nat.le_of_ble_eq_true rfl⟩) (lw_rx hK hP) hK hP hD hS (fun _ h => h) hE (fst_l (WX_fst xa ad cC cF cI cZ cM cS σ σ')) rfl hl.1 rfl (Nat.le_of_ble_eq_true rfl) dL_law_539 ⟨Nat.le_of_ble_eq_true rfl, Nat.le_of_ble_eq_true rfl⟩ (fun H locs hP hD hS => ?_)
  refine lv_aload_n hx hb dL_law_542 rfl (lv_at hl 2 rfl) ?_
  refine lv_aload_n hx hb dL_law_543 rfl (lv_at hl 0 rfl) ?_
  refine lv_iload_n hx hb dL_law_544 rfl (lv_at hl 3 rfl) ?_
  refine lv_iconst (v := nI 1) hx hb dL_law_545 (by decide) ?_
  refine lv_iadd hx hb dL_law_546 ?_
  refine va_sld hx hb hX hbl hbA hS (lw_ix hi hL (show 1 < 5 by omega)).1 dL_law_547 ?_
  rw [(lw_ix hi hL (show 1 < 5 by omega)).2]
  refine xcVw (As := [.int (xs (i + 1))]) (rest := [.int v]) ⟨hx, hb, hml, hown, htl⟩ (q2.right (WM_fst ya am cC cF cI cZ cM cS τ τ') (WX xa ad cC cF cI cZ cM cS σ')) (cwV 1 htl gL_law_X6_limb rfl rfl rfl (by decide +kernel) ⟨Nat.le_of_ble_eq_true rfl, Nat.le_of_ble_eq_true rfl⟩) (lw_rm hK hP) hK hP hD hS (fun _ h => h) hE (fst_r (WM_fst ya am cC cF cI cZ cM cS τ τ')) rfl hl.1 rfl (Nat.le_of_ble_eq_true rfl) dL_law_548 ⟨Nat.le_of_ble_eq_true rfl, Nat.le_of_ble_eq_true rfl⟩ (fun H locs hP hD hS => ?_)
  refine lv_icmp_eq (tgt := 999) hx hb dL_law_551 (by decide) (fun _ => kk σ' τ' H locs hR' hP hD hS) (fun z => absurd rfl z)
set_option maxHeartbeats 1000000 in
set_option maxRecDepth 100000 in
theorem lw_c16 {p : Program} {l : Launch} {e : Env} {s : State} {m : MethodId} {below : List Frame} {meth : Method} {c : Code} {b L : Nat} {xs : Nat → Int32} {Q : State → Prop} {D : va_G} {adK adV : Nat → Nat} {cC cF cI cZ cM cS : ClassId} {xa ya : Nat} {ad am : Nat → Nat} {σ : XS} {τ : RS} {H : Heap} {locs : List Loc} {ls : Array Slot} {i : Nat} (C0 : lw_At p s m meth c b L xs) (hK : va_K D vwCl (tysX cC cF cI cZ cM cS) s) (hE : Ev s.heap.size adK adV s s.heap) (hR : RR σ τ) (hP : va_P D vwCl (WX xa ad cC cF cI cZ cM cS σ ++ WM ya am cC cF cI cZ cM cS τ) H) (hD : va_D (fun q : Nat => s.heap.size ≤ q) (WX xa ad cC cF cI cZ cM cS σ ++ WM ya am cC cF cI cZ cM cS τ)) (hS : va_S (fun q : Nat => s.heap.size ≤ q) s.heap H locs) (hi : i + 5 ≤ L) (hL : L ≤ 2560) (hl : lv_has ls 4 [(0, .ref b), (1, .ref xa), (2, .ref ya), (3, .int (nI i))])
    (kk : ∀ (σ' : XS) (τ' : RS) (H' : Heap) (locs' : List Loc), RR σ' τ' → va_P D vwCl (WX xa ad cC cF cI cZ cM cS σ' ++ WM ya am cC cF cI cZ cM cS τ') H' → va_D (fun q : Nat => s.heap.size ≤ q) (WX xa ad cC cF cI cZ cM cS σ' ++ WM ya am cC cF cI cZ cM cS τ') → va_S (fun q : Nat => s.heap.size ≤ q) s.heap H' locs' → W p l e room_1 s m #[Value.ref b] below meth c H' locs' lwC lwS Q (F0 m 999 ls [])) : W p l e room_1 s m #[Value.ref b] below meth c H locs lwC lwS Q (F0 m 556 ls []) := by
  obtain ⟨hx, hb, hr, hml, hown, hts, hX, hbl, hlocks, hgv⟩ := id C0
  have htl : ∀ w ∈ wsL_law, w.before #[Value.ref b] s = true := fun w h => hts w (wsL_law_in w h)
  have hbA : ¬ (fun q : Nat => s.heap.size ≤ q) b := Nat.not_le.mpr hbl
  obtain ⟨v, σ', τ', q1, q2, hR'⟩ := do_exact (l := l) (D := D) (B := s.heap.size) (adK := adK) (adV := adV) (cC := cC) (cF := cF) (cI := cI) (cZ := cZ) (cM := cM) (cS := cS) (xa := xa) (ad := ad) (ya := ya) (am := am) hR (xs (i + 1))
  refine lv_aload_n hx hb dL_law_556 rfl (lv_at hl 1 rfl) ?_
  refine lv_aload_n hx hb dL_law_557 rfl (lv_at hl 0 rfl) ?_
  refine lv_iload_n hx hb dL_law_558 rfl (lv_at hl 3 rfl) ?_
  refine lv_iconst (v := nI 1) hx hb dL_law_559 (by decide) ?_
  refine lv_iadd hx hb dL_law_560 ?_
  refine va_sld hx hb hX hbl hbA hS (lw_ix hi hL (show 1 < 5 by omega)).1 dL_law_561 ?_
  rw [(lw_ix hi hL (show 1 < 5 by omega)).2]
  refine xcVw (As := [.int (xs (i + 1))]) (rest := []) ⟨hx, hb, hml, hown, htl⟩ (q1.left (WX_fst xa ad cC cF cI cZ cM cS σ σ') (WM ya am cC cF cI cZ cM cS τ)) (cwV 1 htl gL_law_X5_exact rfl rfl rfl (by decide +kernel) ⟨Nat.le_of_ble_eq_true rfl, Nat.le_of_ble_eq_true rfl⟩) (lw_rx hK hP) hK hP hD hS (fun _ h => h) hE (fst_l (WX_fst xa ad cC cF cI cZ cM cS σ σ')) rfl hl.1 rfl (Nat.le_of_ble_eq_true rfl) dL_law_562 ⟨Nat.le_of_ble_eq_true rfl, Nat.le_of_ble_eq_true rfl⟩ (fun H locs hP hD hS => ?_)
  refine lv_aload_n hx hb dL_law_565 rfl (lv_at hl 2 rfl) ?_
  refine lv_aload_n hx hb dL_law_566 rfl (lv_at hl 0 rfl) ?_
  refine lv_iload_n hx hb dL_law_567 rfl (lv_at hl 3 rfl) ?_
  refine lv_iconst (v := nI 1) hx hb dL_law_568 (by decide) ?_
  refine lv_iadd hx hb dL_law_569 ?_
  refine va_sld hx hb hX hbl hbA hS (lw_ix hi hL (show 1 < 5 by omega)).1 dL_law_570 ?_
  rw [(lw_ix hi hL (show 1 < 5 by omega)).2]
  refine xcVw (As := [.int (xs (i + 1))]) (rest := [.long v]) ⟨hx, hb, hml, hown, htl⟩ (q2.right (WM_fst ya am cC cF cI cZ cM cS τ τ') (WX xa ad cC cF cI cZ cM cS σ')) (cwV 1 htl gL_law_X6_exact rfl rfl rfl (by decide +kernel) ⟨Nat.le_of_ble_eq_true rfl, Nat.le_of_ble_eq_true rfl⟩) (lw_rm hK hP) hK hP hD hS (fun _ h => h) hE (fst_r (WM_fst ya am cC cF cI cZ cM cS τ τ')) rfl hl.1 rfl (Nat.le_of_ble_eq_true rfl) dL_law_571 ⟨Nat.le_of_ble_eq_true rfl, Nat.le_of_ble_eq_true rfl⟩ (fun H locs hP hD hS => ?_)
  refine W.lcmp hx hb dL_law_574 ?_
  refine lv_if_eq (tgt := 999) hx hb dL_law_575 (by decide) (fun _ => kk σ' τ' H locs hR' hP hD hS) (fun z => absurd (lw_lc v) z)
set_option maxHeartbeats 1000000 in
set_option maxRecDepth 100000 in
theorem lw_c17 {p : Program} {l : Launch} {e : Env} {s : State} {m : MethodId} {below : List Frame} {meth : Method} {c : Code} {b L : Nat} {xs : Nat → Int32} {Q : State → Prop} {D : va_G} {adK adV : Nat → Nat} {cC cF cI cZ cM cS : ClassId} {xa ya : Nat} {ad am : Nat → Nat} {σ : XS} {τ : RS} {H : Heap} {locs : List Loc} {ls : Array Slot} {i : Nat} (C0 : lw_At p s m meth c b L xs) (hK : va_K D vwCl (tysX cC cF cI cZ cM cS) s) (hE : Ev s.heap.size adK adV s s.heap) (hR : RR σ τ) (hP : va_P D vwCl (WX xa ad cC cF cI cZ cM cS σ ++ WM ya am cC cF cI cZ cM cS τ) H) (hD : va_D (fun q : Nat => s.heap.size ≤ q) (WX xa ad cC cF cI cZ cM cS σ ++ WM ya am cC cF cI cZ cM cS τ)) (hS : va_S (fun q : Nat => s.heap.size ≤ q) s.heap H locs) (hi : i + 5 ≤ L) (hL : L ≤ 2560) (hl : lv_has ls 4 [(0, .ref b), (1, .ref xa), (2, .ref ya), (3, .int (nI i))])
    (kk : ∀ (σ' : XS) (τ' : RS) (H' : Heap) (locs' : List Loc), RR σ' τ' → va_P D vwCl (WX xa ad cC cF cI cZ cM cS σ' ++ WM ya am cC cF cI cZ cM cS τ') H' → va_D (fun q : Nat => s.heap.size ≤ q) (WX xa ad cC cF cI cZ cM cS σ' ++ WM ya am cC cF cI cZ cM cS τ') → va_S (fun q : Nat => s.heap.size ≤ q) s.heap H' locs' → W p l e room_1 s m #[Value.ref b] below meth c H' locs' lwC lwS Q (F0 m 999 ls [])) : W p l e room_1 s m #[Value.ref b] below meth c H locs lwC lwS Q (F0 m 580 ls []) := by
  obtain ⟨hx, hb, hr, hml, hown, hts, hX, hbl, hlocks, hgv⟩ := id C0
  have htl : ∀ w ∈ wsL_law, w.before #[Value.ref b] s = true := fun w h => hts w (wsL_law_in w h)
  have hbA : ¬ (fun q : Nat => s.heap.size ≤ q) b := Nat.not_le.mpr hbl
  obtain ⟨v, σ', τ', q1, q2, hR'⟩ := do_whole (l := l) (D := D) (B := s.heap.size) (adK := adK) (adV := adV) (cC := cC) (cF := cF) (cI := cI) (cZ := cZ) (cM := cM) (cS := cS) (xa := xa) (ad := ad) (ya := ya) (am := am) hR (xs (i + 1))
  refine lv_aload_n hx hb dL_law_580 rfl (lv_at hl 1 rfl) ?_
  refine lv_aload_n hx hb dL_law_581 rfl (lv_at hl 0 rfl) ?_
  refine lv_iload_n hx hb dL_law_582 rfl (lv_at hl 3 rfl) ?_
  refine lv_iconst (v := nI 1) hx hb dL_law_583 (by decide) ?_
  refine lv_iadd hx hb dL_law_584 ?_
  refine va_sld hx hb hX hbl hbA hS (lw_ix hi hL (show 1 < 5 by omega)).1 dL_law_585 ?_
  rw [(lw_ix hi hL (show 1 < 5 by omega)).2]
  refine xcVw (As := [.int (xs (i + 1))]) (rest := []) ⟨hx, hb, hml, hown, htl⟩ (q1.left (WX_fst xa ad cC cF cI cZ cM cS σ σ') (WM ya am cC cF cI cZ cM cS τ)) (cwV 1 htl gL_law_X5_whole rfl rfl rfl (by decide +kernel) ⟨Nat.le_of_ble_eq_true rfl, Nat.le_of_ble_eq_true rfl⟩) (lw_rx hK hP) hK hP hD hS (fun _ h => h) hE (fst_l (WX_fst xa ad cC cF cI cZ cM cS σ σ')) rfl hl.1 rfl (Nat.le_of_ble_eq_true rfl) dL_law_586 ⟨Nat.le_of_ble_eq_true rfl, Nat.le_of_ble_eq_true rfl⟩ (fun H locs hP hD hS => ?_)
  refine lv_aload_n hx hb dL_law_589 rfl (lv_at hl 2 rfl) ?_
  refine lv_aload_n hx hb dL_law_590 rfl (lv_at hl 0 rfl) ?_
  refine lv_iload_n hx hb dL_law_591 rfl (lv_at hl 3 rfl) ?_
  refine lv_iconst (v := nI 1) hx hb dL_law_592 (by decide) ?_
  refine lv_iadd hx hb dL_law_593 ?_
  refine va_sld hx hb hX hbl hbA hS (lw_ix hi hL (show 1 < 5 by omega)).1 dL_law_594 ?_
  rw [(lw_ix hi hL (show 1 < 5 by omega)).2]
  refine xcVw (As := [.int (xs (i + 1))]) (rest := [.int v]) ⟨hx, hb, hml, hown, htl⟩ (q2.right (WM_fst ya am cC cF cI cZ cM cS τ τ') (WX xa ad cC cF cI cZ cM cS σ')) (cwV 1 htl gL_law_X6_whole rfl rfl rfl (by decide +kernel) ⟨Nat.le_of_ble_eq_true rfl, Nat.le_of_ble_eq_true rfl⟩) (lw_rm hK hP) hK hP hD hS (fun _ h => h) hE (fst_r (WM_fst ya am cC cF cI cZ cM cS τ τ')) rfl hl.1 rfl (Nat.le_of_ble_eq_true rfl) dL_law_595 ⟨Nat.le_of_ble_eq_true rfl, Nat.le_of_ble_eq_true rfl⟩ (fun H locs hP hD hS => ?_)
  refine lv_icmp_eq (tgt := 999) hx hb dL_law_598 (by decide) (fun _ => kk σ' τ' H locs hR' hP hD hS) (fun z => absurd rfl z)
set_option maxHeartbeats 1000000 in
set_option maxRecDepth 100000 in
theorem lw_c18 {p : Program} {l : Launch} {e : Env} {s : State} {m : MethodId} {below : List Frame} {meth : Method} {c : Code} {b L : Nat} {xs : Nat → Int32} {Q : State → Prop} {D : va_G} {adK adV : Nat → Nat} {cC cF cI cZ cM cS : ClassId} {xa ya : Nat} {ad am : Nat → Nat} {σ : XS} {τ : RS} {H : Heap} {locs : List Loc} {ls : Array Slot} {i : Nat} (C0 : lw_At p s m meth c b L xs) (hK : va_K D vwCl (tysX cC cF cI cZ cM cS) s) (hE : Ev s.heap.size adK adV s s.heap) (hR : RR σ τ) (hP : va_P D vwCl (WX xa ad cC cF cI cZ cM cS σ ++ WM ya am cC cF cI cZ cM cS τ) H) (hD : va_D (fun q : Nat => s.heap.size ≤ q) (WX xa ad cC cF cI cZ cM cS σ ++ WM ya am cC cF cI cZ cM cS τ)) (hS : va_S (fun q : Nat => s.heap.size ≤ q) s.heap H locs) (hi : i + 5 ≤ L) (hL : L ≤ 2560) (hl : lv_has ls 4 [(0, .ref b), (1, .ref xa), (2, .ref ya), (3, .int (nI i))])
    (kk : ∀ (σ' : XS) (τ' : RS) (H' : Heap) (locs' : List Loc), RR σ' τ' → va_P D vwCl (WX xa ad cC cF cI cZ cM cS σ' ++ WM ya am cC cF cI cZ cM cS τ') H' → va_D (fun q : Nat => s.heap.size ≤ q) (WX xa ad cC cF cI cZ cM cS σ' ++ WM ya am cC cF cI cZ cM cS τ') → va_S (fun q : Nat => s.heap.size ≤ q) s.heap H' locs' → W p l e room_1 s m #[Value.ref b] below meth c H' locs' lwC lwS Q (F0 m 999 ls [])) : W p l e room_1 s m #[Value.ref b] below meth c H locs lwC lwS Q (F0 m 603 ls []) := by
  obtain ⟨hx, hb, hr, hml, hown, hts, hX, hbl, hlocks, hgv⟩ := id C0
  have htl : ∀ w ∈ wsL_law, w.before #[Value.ref b] s = true := fun w h => hts w (wsL_law_in w h)
  have hbA : ¬ (fun q : Nat => s.heap.size ≤ q) b := Nat.not_le.mpr hbl
  obtain ⟨v, σ', τ', q1, q2, hR'⟩ := do_reach (l := l) (D := D) (B := s.heap.size) (adK := adK) (adV := adV) (cC := cC) (cF := cF) (cI := cI) (cZ := cZ) (cM := cM) (cS := cS) (xa := xa) (ad := ad) (ya := ya) (am := am) hR (xs (i + 1))
  refine lv_aload_n hx hb dL_law_603 rfl (lv_at hl 1 rfl) ?_
  refine lv_aload_n hx hb dL_law_604 rfl (lv_at hl 0 rfl) ?_
  refine lv_iload_n hx hb dL_law_605 rfl (lv_at hl 3 rfl) ?_
  refine lv_iconst (v := nI 1) hx hb dL_law_606 (by decide) ?_
  refine lv_iadd hx hb dL_law_607 ?_
  refine va_sld hx hb hX hbl hbA hS (lw_ix hi hL (show 1 < 5 by omega)).1 dL_law_608 ?_
  rw [(lw_ix hi hL (show 1 < 5 by omega)).2]
  refine xcVw (As := [.int (xs (i + 1))]) (rest := []) ⟨hx, hb, hml, hown, htl⟩ (q1.left (WX_fst xa ad cC cF cI cZ cM cS σ σ') (WM ya am cC cF cI cZ cM cS τ)) (cwV 1 htl gL_law_X5_reach rfl rfl rfl (by decide +kernel) ⟨Nat.le_of_ble_eq_true rfl, Nat.le_of_ble_eq_true rfl⟩) (lw_rx hK hP) hK hP hD hS (fun _ h => h) hE (fst_l (WX_fst xa ad cC cF cI cZ cM cS σ σ')) rfl hl.1 rfl (Nat.le_of_ble_eq_true rfl) dL_law_609 ⟨Nat.le_of_ble_eq_true rfl, Nat.le_of_ble_eq_true rfl⟩ (fun H locs hP hD hS => ?_)
  refine lv_aload_n hx hb dL_law_612 rfl (lv_at hl 2 rfl) ?_
  refine lv_aload_n hx hb dL_law_613 rfl (lv_at hl 0 rfl) ?_
  refine lv_iload_n hx hb dL_law_614 rfl (lv_at hl 3 rfl) ?_
  refine lv_iconst (v := nI 1) hx hb dL_law_615 (by decide) ?_
  refine lv_iadd hx hb dL_law_616 ?_
  refine va_sld hx hb hX hbl hbA hS (lw_ix hi hL (show 1 < 5 by omega)).1 dL_law_617 ?_
  rw [(lw_ix hi hL (show 1 < 5 by omega)).2]
  refine xcVw (As := [.int (xs (i + 1))]) (rest := [.int v]) ⟨hx, hb, hml, hown, htl⟩ (q2.right (WM_fst ya am cC cF cI cZ cM cS τ τ') (WX xa ad cC cF cI cZ cM cS σ')) (cwV 1 htl gL_law_X6_reach rfl rfl rfl (by decide +kernel) ⟨Nat.le_of_ble_eq_true rfl, Nat.le_of_ble_eq_true rfl⟩) (lw_rm hK hP) hK hP hD hS (fun _ h => h) hE (fst_r (WM_fst ya am cC cF cI cZ cM cS τ τ')) rfl hl.1 rfl (Nat.le_of_ble_eq_true rfl) dL_law_618 ⟨Nat.le_of_ble_eq_true rfl, Nat.le_of_ble_eq_true rfl⟩ (fun H locs hP hD hS => ?_)
  refine lv_icmp_eq (tgt := 999) hx hb dL_law_621 (by decide) (fun _ => kk σ' τ' H locs hR' hP hD hS) (fun z => absurd rfl z)
set_option maxHeartbeats 1000000 in
set_option maxRecDepth 100000 in
theorem lw_c19 {p : Program} {l : Launch} {e : Env} {s : State} {m : MethodId} {below : List Frame} {meth : Method} {c : Code} {b L : Nat} {xs : Nat → Int32} {Q : State → Prop} {D : va_G} {adK adV : Nat → Nat} {cC cF cI cZ cM cS : ClassId} {xa ya : Nat} {ad am : Nat → Nat} {σ : XS} {τ : RS} {H : Heap} {locs : List Loc} {ls : Array Slot} {i : Nat} (C0 : lw_At p s m meth c b L xs) (hK : va_K D vwCl (tysX cC cF cI cZ cM cS) s) (hE : Ev s.heap.size adK adV s s.heap) (hR : RR σ τ) (hP : va_P D vwCl (WX xa ad cC cF cI cZ cM cS σ ++ WM ya am cC cF cI cZ cM cS τ) H) (hD : va_D (fun q : Nat => s.heap.size ≤ q) (WX xa ad cC cF cI cZ cM cS σ ++ WM ya am cC cF cI cZ cM cS τ)) (hS : va_S (fun q : Nat => s.heap.size ≤ q) s.heap H locs) (hi : i + 5 ≤ L) (hL : L ≤ 2560) (hl : lv_has ls 4 [(0, .ref b), (1, .ref xa), (2, .ref ya), (3, .int (nI i))])
    (kk : ∀ (σ' : XS) (τ' : RS) (H' : Heap) (locs' : List Loc), RR σ' τ' → va_P D vwCl (WX xa ad cC cF cI cZ cM cS σ' ++ WM ya am cC cF cI cZ cM cS τ') H' → va_D (fun q : Nat => s.heap.size ≤ q) (WX xa ad cC cF cI cZ cM cS σ' ++ WM ya am cC cF cI cZ cM cS τ') → va_S (fun q : Nat => s.heap.size ≤ q) s.heap H' locs' → W p l e room_1 s m #[Value.ref b] below meth c H' locs' lwC lwS Q (F0 m 999 ls [])) : W p l e room_1 s m #[Value.ref b] below meth c H locs lwC lwS Q (F0 m 626 ls []) := by
  obtain ⟨hx, hb, hr, hml, hown, hts, hX, hbl, hlocks, hgv⟩ := id C0
  have htl : ∀ w ∈ wsL_law, w.before #[Value.ref b] s = true := fun w h => hts w (wsL_law_in w h)
  have hbA : ¬ (fun q : Nat => s.heap.size ≤ q) b := Nat.not_le.mpr hbl
  obtain ⟨v, σ', τ', q1, q2, hR'⟩ := do_dead (l := l) (D := D) (B := s.heap.size) (adK := adK) (adV := adV) (cC := cC) (cF := cF) (cI := cI) (cZ := cZ) (cM := cM) (cS := cS) (xa := xa) (ad := ad) (ya := ya) (am := am) hR
  refine lv_aload_n hx hb dL_law_626 rfl (lv_at hl 1 rfl) ?_
  refine xcVw (As := []) (rest := []) ⟨hx, hb, hml, hown, htl⟩ (q1.left (WX_fst xa ad cC cF cI cZ cM cS σ σ') (WM ya am cC cF cI cZ cM cS τ)) (cwV 0 htl gL_law_X5_dead rfl rfl rfl (by decide +kernel) ⟨Nat.le_of_ble_eq_true rfl, Nat.le_of_ble_eq_true rfl⟩) (lw_rx hK hP) hK hP hD hS (fun _ h => h) hE (fst_l (WX_fst xa ad cC cF cI cZ cM cS σ σ')) rfl hl.1 rfl (Nat.le_of_ble_eq_true rfl) dL_law_627 ⟨Nat.le_of_ble_eq_true rfl, Nat.le_of_ble_eq_true rfl⟩ (fun H locs hP hD hS => ?_)
  refine lv_aload_n hx hb dL_law_630 rfl (lv_at hl 2 rfl) ?_
  refine xcVw (As := []) (rest := [.int v]) ⟨hx, hb, hml, hown, htl⟩ (q2.right (WM_fst ya am cC cF cI cZ cM cS τ τ') (WX xa ad cC cF cI cZ cM cS σ')) (cwV 0 htl gL_law_X6_dead rfl rfl rfl (by decide +kernel) ⟨Nat.le_of_ble_eq_true rfl, Nat.le_of_ble_eq_true rfl⟩) (lw_rm hK hP) hK hP hD hS (fun _ h => h) hE (fst_r (WM_fst ya am cC cF cI cZ cM cS τ τ')) rfl hl.1 rfl (Nat.le_of_ble_eq_true rfl) dL_law_631 ⟨Nat.le_of_ble_eq_true rfl, Nat.le_of_ble_eq_true rfl⟩ (fun H locs hP hD hS => ?_)
  refine lv_icmp_eq (tgt := 999) hx hb dL_law_634 (by decide) (fun _ => kk σ' τ' H locs hR' hP hD hS) (fun z => absurd rfl z)
set_option maxHeartbeats 1000000 in
set_option maxRecDepth 100000 in
theorem lw_c20 {p : Program} {l : Launch} {e : Env} {s : State} {m : MethodId} {below : List Frame} {meth : Method} {c : Code} {b L : Nat} {xs : Nat → Int32} {Q : State → Prop} {D : va_G} {adK adV : Nat → Nat} {cC cF cI cZ cM cS : ClassId} {xa ya : Nat} {ad am : Nat → Nat} {σ : XS} {τ : RS} {H : Heap} {locs : List Loc} {ls : Array Slot} {i : Nat} (C0 : lw_At p s m meth c b L xs) (hK : va_K D vwCl (tysX cC cF cI cZ cM cS) s) (hE : Ev s.heap.size adK adV s s.heap) (hR : RR σ τ) (hP : va_P D vwCl (WX xa ad cC cF cI cZ cM cS σ ++ WM ya am cC cF cI cZ cM cS τ) H) (hD : va_D (fun q : Nat => s.heap.size ≤ q) (WX xa ad cC cF cI cZ cM cS σ ++ WM ya am cC cF cI cZ cM cS τ)) (hS : va_S (fun q : Nat => s.heap.size ≤ q) s.heap H locs) (hi : i + 5 ≤ L) (hL : L ≤ 2560) (hl : lv_has ls 4 [(0, .ref b), (1, .ref xa), (2, .ref ya), (3, .int (nI i))])
    (kk : ∀ (σ' : XS) (τ' : RS) (H' : Heap) (locs' : List Loc), RR σ' τ' → va_P D vwCl (WX xa ad cC cF cI cZ cM cS σ' ++ WM ya am cC cF cI cZ cM cS τ') H' → va_D (fun q : Nat => s.heap.size ≤ q) (WX xa ad cC cF cI cZ cM cS σ' ++ WM ya am cC cF cI cZ cM cS τ') → va_S (fun q : Nat => s.heap.size ≤ q) s.heap H' locs' → W p l e room_1 s m #[Value.ref b] below meth c H' locs' lwC lwS Q (F0 m 999 ls [])) : W p l e room_1 s m #[Value.ref b] below meth c H locs lwC lwS Q (F0 m 639 ls []) := by
  obtain ⟨hx, hb, hr, hml, hown, hts, hX, hbl, hlocks, hgv⟩ := id C0
  have htl : ∀ w ∈ wsL_law, w.before #[Value.ref b] s = true := fun w h => hts w (wsL_law_in w h)
  have hbA : ¬ (fun q : Nat => s.heap.size ≤ q) b := Nat.not_le.mpr hbl
  obtain ⟨v, σ', τ', q1, q2, hR'⟩ := do_until (l := l) (D := D) (B := s.heap.size) (adK := adK) (adV := adV) (cC := cC) (cF := cF) (cI := cI) (cZ := cZ) (cM := cM) (cS := cS) (xa := xa) (ad := ad) (ya := ya) (am := am) hR (xs (i + 1)) (xs (i + 2))
  refine lv_aload_n hx hb dL_law_639 rfl (lv_at hl 1 rfl) ?_
  refine lv_aload_n hx hb dL_law_640 rfl (lv_at hl 0 rfl) ?_
  refine lv_iload_n hx hb dL_law_641 rfl (lv_at hl 3 rfl) ?_
  refine lv_iconst (v := nI 1) hx hb dL_law_642 (by decide) ?_
  refine lv_iadd hx hb dL_law_643 ?_
  refine va_sld hx hb hX hbl hbA hS (lw_ix hi hL (show 1 < 5 by omega)).1 dL_law_644 ?_
  rw [(lw_ix hi hL (show 1 < 5 by omega)).2]
  refine lv_aload_n hx hb dL_law_645 rfl (lv_at hl 0 rfl) ?_
  refine lv_iload_n hx hb dL_law_646 rfl (lv_at hl 3 rfl) ?_
  refine lv_iconst (v := nI 2) hx hb dL_law_647 (by decide) ?_
  refine lv_iadd hx hb dL_law_648 ?_
  refine va_sld hx hb hX hbl hbA hS (lw_ix hi hL (show 2 < 5 by omega)).1 dL_law_649 ?_
  rw [(lw_ix hi hL (show 2 < 5 by omega)).2]
  refine xcVw (As := [.int (xs (i + 1)), .int (xs (i + 2))]) (rest := []) ⟨hx, hb, hml, hown, htl⟩ (q1.left (WX_fst xa ad cC cF cI cZ cM cS σ σ') (WM ya am cC cF cI cZ cM cS τ)) (cwV 2 htl gL_law_X5_until rfl rfl rfl (by decide +kernel) ⟨Nat.le_of_ble_eq_true rfl, Nat.le_of_ble_eq_true rfl⟩) (lw_rx hK hP) hK hP hD hS (fun _ h => h) hE (fst_l (WX_fst xa ad cC cF cI cZ cM cS σ σ')) rfl hl.1 rfl (Nat.le_of_ble_eq_true rfl) dL_law_650 ⟨Nat.le_of_ble_eq_true rfl, Nat.le_of_ble_eq_true rfl⟩ (fun H locs hP hD hS => ?_)
  refine lv_aload_n hx hb dL_law_653 rfl (lv_at hl 2 rfl) ?_
  refine lv_aload_n hx hb dL_law_654 rfl (lv_at hl 0 rfl) ?_
  refine lv_iload_n hx hb dL_law_655 rfl (lv_at hl 3 rfl) ?_
  refine lv_iconst (v := nI 1) hx hb dL_law_656 (by decide) ?_
  refine lv_iadd hx hb dL_law_657 ?_
  refine va_sld hx hb hX hbl hbA hS (lw_ix hi hL (show 1 < 5 by omega)).1 dL_law_658 ?_
  rw [(lw_ix hi hL (show 1 < 5 by omega)).2]
  refine lv_aload_n hx hb dL_law_659 rfl (lv_at hl 0 rfl) ?_
  refine lv_iload_n hx hb dL_law_660 rfl (lv_at hl 3 rfl) ?_
  refine lv_iconst (v := nI 2) hx hb dL_law_661 (by decide) ?_
  refine lv_iadd hx hb dL_law_662 ?_
  refine va_sld hx hb hX hbl hbA hS (lw_ix hi hL (show 2 < 5 by omega)).1 dL_law_663 ?_
  rw [(lw_ix hi hL (show 2 < 5 by omega)).2]
  refine xcVw (As := [.int (xs (i + 1)), .int (xs (i + 2))]) (rest := [.int v]) ⟨hx, hb, hml, hown, htl⟩ (q2.right (WM_fst ya am cC cF cI cZ cM cS τ τ') (WX xa ad cC cF cI cZ cM cS σ')) (cwV 2 htl gL_law_X6_until rfl rfl rfl (by decide +kernel) ⟨Nat.le_of_ble_eq_true rfl, Nat.le_of_ble_eq_true rfl⟩) (lw_rm hK hP) hK hP hD hS (fun _ h => h) hE (fst_r (WM_fst ya am cC cF cI cZ cM cS τ τ')) rfl hl.1 rfl (Nat.le_of_ble_eq_true rfl) dL_law_664 ⟨Nat.le_of_ble_eq_true rfl, Nat.le_of_ble_eq_true rfl⟩ (fun H locs hP hD hS => ?_)
  refine lv_icmp_eq (tgt := 999) hx hb dL_law_667 (by decide) (fun _ => kk σ' τ' H locs hR' hP hD hS) (fun z => absurd rfl z)
set_option maxHeartbeats 1000000 in
set_option maxRecDepth 100000 in
theorem lw_c21 {p : Program} {l : Launch} {e : Env} {s : State} {m : MethodId} {below : List Frame} {meth : Method} {c : Code} {b L : Nat} {xs : Nat → Int32} {Q : State → Prop} {D : va_G} {adK adV : Nat → Nat} {cC cF cI cZ cM cS : ClassId} {xa ya : Nat} {ad am : Nat → Nat} {σ : XS} {τ : RS} {H : Heap} {locs : List Loc} {ls : Array Slot} {i : Nat} (C0 : lw_At p s m meth c b L xs) (hK : va_K D vwCl (tysX cC cF cI cZ cM cS) s) (hE : Ev s.heap.size adK adV s s.heap) (hR : RR σ τ) (hP : va_P D vwCl (WX xa ad cC cF cI cZ cM cS σ ++ WM ya am cC cF cI cZ cM cS τ) H) (hD : va_D (fun q : Nat => s.heap.size ≤ q) (WX xa ad cC cF cI cZ cM cS σ ++ WM ya am cC cF cI cZ cM cS τ)) (hS : va_S (fun q : Nat => s.heap.size ≤ q) s.heap H locs) (hi : i + 5 ≤ L) (hL : L ≤ 2560) (hl : lv_has ls 4 [(0, .ref b), (1, .ref xa), (2, .ref ya), (3, .int (nI i))])
    (kk : ∀ (σ' : XS) (τ' : RS) (H' : Heap) (locs' : List Loc), RR σ' τ' → va_P D vwCl (WX xa ad cC cF cI cZ cM cS σ' ++ WM ya am cC cF cI cZ cM cS τ') H' → va_D (fun q : Nat => s.heap.size ≤ q) (WX xa ad cC cF cI cZ cM cS σ' ++ WM ya am cC cF cI cZ cM cS τ') → va_S (fun q : Nat => s.heap.size ≤ q) s.heap H' locs' → W p l e room_1 s m #[Value.ref b] below meth c H' locs' lwC lwS Q (F0 m 999 ls [])) : W p l e room_1 s m #[Value.ref b] below meth c H locs lwC lwS Q (F0 m 672 ls []) := by
  obtain ⟨hx, hb, hr, hml, hown, hts, hX, hbl, hlocks, hgv⟩ := id C0
  have htl : ∀ w ∈ wsL_law, w.before #[Value.ref b] s = true := fun w h => hts w (wsL_law_in w h)
  have hbA : ¬ (fun q : Nat => s.heap.size ≤ q) b := Nat.not_le.mpr hbl
  obtain ⟨v, σ', τ', q1, q2, hR'⟩ := do_pulled (l := l) (D := D) (B := s.heap.size) (adK := adK) (adV := adV) (cC := cC) (cF := cF) (cI := cI) (cZ := cZ) (cM := cM) (cS := cS) (xa := xa) (ad := ad) (ya := ya) (am := am) hR (xs (i + 1)) (xs (i + 2))
  refine lv_aload_n hx hb dL_law_672 rfl (lv_at hl 1 rfl) ?_
  refine lv_aload_n hx hb dL_law_673 rfl (lv_at hl 0 rfl) ?_
  refine lv_iload_n hx hb dL_law_674 rfl (lv_at hl 3 rfl) ?_
  refine lv_iconst (v := nI 1) hx hb dL_law_675 (by decide) ?_
  refine lv_iadd hx hb dL_law_676 ?_
  refine va_sld hx hb hX hbl hbA hS (lw_ix hi hL (show 1 < 5 by omega)).1 dL_law_677 ?_
  rw [(lw_ix hi hL (show 1 < 5 by omega)).2]
  refine lv_aload_n hx hb dL_law_678 rfl (lv_at hl 0 rfl) ?_
  refine lv_iload_n hx hb dL_law_679 rfl (lv_at hl 3 rfl) ?_
  refine lv_iconst (v := nI 2) hx hb dL_law_680 (by decide) ?_
  refine lv_iadd hx hb dL_law_681 ?_
  refine va_sld hx hb hX hbl hbA hS (lw_ix hi hL (show 2 < 5 by omega)).1 dL_law_682 ?_
  rw [(lw_ix hi hL (show 2 < 5 by omega)).2]
  refine xcVw (As := [.int (xs (i + 1)), .int (xs (i + 2))]) (rest := []) ⟨hx, hb, hml, hown, htl⟩ (q1.left (WX_fst xa ad cC cF cI cZ cM cS σ σ') (WM ya am cC cF cI cZ cM cS τ)) (cwV 2 htl gL_law_X5_pulled rfl rfl rfl (by decide +kernel) ⟨Nat.le_of_ble_eq_true rfl, Nat.le_of_ble_eq_true rfl⟩) (lw_rx hK hP) hK hP hD hS (fun _ h => h) hE (fst_l (WX_fst xa ad cC cF cI cZ cM cS σ σ')) rfl hl.1 rfl (Nat.le_of_ble_eq_true rfl) dL_law_683 ⟨Nat.le_of_ble_eq_true rfl, Nat.le_of_ble_eq_true rfl⟩ (fun H locs hP hD hS => ?_)
  refine lv_aload_n hx hb dL_law_686 rfl (lv_at hl 2 rfl) ?_
  refine lv_aload_n hx hb dL_law_687 rfl (lv_at hl 0 rfl) ?_
  refine lv_iload_n hx hb dL_law_688 rfl (lv_at hl 3 rfl) ?_
  refine lv_iconst (v := nI 1) hx hb dL_law_689 (by decide) ?_
  refine lv_iadd hx hb dL_law_690 ?_
  refine va_sld hx hb hX hbl hbA hS (lw_ix hi hL (show 1 < 5 by omega)).1 dL_law_691 ?_
  rw [(lw_ix hi hL (show 1 < 5 by omega)).2]
  refine lv_aload_n hx hb dL_law_692 rfl (lv_at hl 0 rfl) ?_
  refine lv_iload_n hx hb dL_law_693 rfl (lv_at hl 3 rfl) ?_
  refine lv_iconst (v := nI 2) hx hb dL_law_694 (by decide) ?_
  refine lv_iadd hx hb dL_law_695 ?_
  refine va_sld hx hb hX hbl hbA hS (lw_ix hi hL (show 2 < 5 by omega)).1 dL_law_696 ?_
  rw [(lw_ix hi hL (show 2 < 5 by omega)).2]
  refine xcVw (As := [.int (xs (i + 1)), .int (xs (i + 2))]) (rest := [.int v]) ⟨hx, hb, hml, hown, htl⟩ (q2.right (WM_fst ya am cC cF cI cZ cM cS τ τ') (WX xa ad cC cF cI cZ cM cS σ')) (cwV 2 htl gL_law_X6_pulled rfl rfl rfl (by decide +kernel) ⟨Nat.le_of_ble_eq_true rfl, Nat.le_of_ble_eq_true rfl⟩) (lw_rm hK hP) hK hP hD hS (fun _ h => h) hE (fst_r (WM_fst ya am cC cF cI cZ cM cS τ τ')) rfl hl.1 rfl (Nat.le_of_ble_eq_true rfl) dL_law_697 ⟨Nat.le_of_ble_eq_true rfl, Nat.le_of_ble_eq_true rfl⟩ (fun H locs hP hD hS => ?_)
  refine lv_icmp_eq (tgt := 999) hx hb dL_law_700 (by decide) (fun _ => kk σ' τ' H locs hR' hP hD hS) (fun z => absurd rfl z)
set_option maxHeartbeats 1000000 in
set_option maxRecDepth 100000 in
theorem lw_c22 {p : Program} {l : Launch} {e : Env} {s : State} {m : MethodId} {below : List Frame} {meth : Method} {c : Code} {b L : Nat} {xs : Nat → Int32} {Q : State → Prop} {D : va_G} {adK adV : Nat → Nat} {cC cF cI cZ cM cS : ClassId} {xa ya : Nat} {ad am : Nat → Nat} {σ : XS} {τ : RS} {H : Heap} {locs : List Loc} {ls : Array Slot} {i : Nat} (C0 : lw_At p s m meth c b L xs) (hK : va_K D vwCl (tysX cC cF cI cZ cM cS) s) (hE : Ev s.heap.size adK adV s s.heap) (hR : RR σ τ) (hP : va_P D vwCl (WX xa ad cC cF cI cZ cM cS σ ++ WM ya am cC cF cI cZ cM cS τ) H) (hD : va_D (fun q : Nat => s.heap.size ≤ q) (WX xa ad cC cF cI cZ cM cS σ ++ WM ya am cC cF cI cZ cM cS τ)) (hS : va_S (fun q : Nat => s.heap.size ≤ q) s.heap H locs) (hi : i + 5 ≤ L) (hL : L ≤ 2560) (hl : lv_has ls 4 [(0, .ref b), (1, .ref xa), (2, .ref ya), (3, .int (nI i))])
    (kk : ∀ (σ' : XS) (τ' : RS) (H' : Heap) (locs' : List Loc), RR σ' τ' → va_P D vwCl (WX xa ad cC cF cI cZ cM cS σ' ++ WM ya am cC cF cI cZ cM cS τ') H' → va_D (fun q : Nat => s.heap.size ≤ q) (WX xa ad cC cF cI cZ cM cS σ' ++ WM ya am cC cF cI cZ cM cS τ') → va_S (fun q : Nat => s.heap.size ≤ q) s.heap H' locs' → W p l e room_1 s m #[Value.ref b] below meth c H' locs' lwC lwS Q (F0 m 999 ls [])) : W p l e room_1 s m #[Value.ref b] below meth c H locs lwC lwS Q (F0 m 705 ls []) := by
  obtain ⟨hx, hb, hr, hml, hown, hts, hX, hbl, hlocks, hgv⟩ := id C0
  have htl : ∀ w ∈ wsL_law, w.before #[Value.ref b] s = true := fun w h => hts w (wsL_law_in w h)
  have hbA : ¬ (fun q : Nat => s.heap.size ≤ q) b := Nat.not_le.mpr hbl
  obtain ⟨v, σ', τ', q1, q2, hR'⟩ := do_shelf (l := l) (D := D) (B := s.heap.size) (adK := adK) (adV := adV) (cC := cC) (cF := cF) (cI := cI) (cZ := cZ) (cM := cM) (cS := cS) (xa := xa) (ad := ad) (ya := ya) (am := am) hR (xs (i + 1)) (xs (i + 2)) (xs (i + 3))
  refine lv_aload_n hx hb dL_law_705 rfl (lv_at hl 1 rfl) ?_
  refine lv_aload_n hx hb dL_law_706 rfl (lv_at hl 0 rfl) ?_
  refine lv_iload_n hx hb dL_law_707 rfl (lv_at hl 3 rfl) ?_
  refine lv_iconst (v := nI 1) hx hb dL_law_708 (by decide) ?_
  refine lv_iadd hx hb dL_law_709 ?_
  refine va_sld hx hb hX hbl hbA hS (lw_ix hi hL (show 1 < 5 by omega)).1 dL_law_710 ?_
  rw [(lw_ix hi hL (show 1 < 5 by omega)).2]
  refine lv_aload_n hx hb dL_law_711 rfl (lv_at hl 0 rfl) ?_
  refine lv_iload_n hx hb dL_law_712 rfl (lv_at hl 3 rfl) ?_
  refine lv_iconst (v := nI 2) hx hb dL_law_713 (by decide) ?_
  refine lv_iadd hx hb dL_law_714 ?_
  refine va_sld hx hb hX hbl hbA hS (lw_ix hi hL (show 2 < 5 by omega)).1 dL_law_715 ?_
  rw [(lw_ix hi hL (show 2 < 5 by omega)).2]
  refine lv_aload_n hx hb dL_law_716 rfl (lv_at hl 0 rfl) ?_
  refine lv_iload_n hx hb dL_law_717 rfl (lv_at hl 3 rfl) ?_
  refine lv_iconst (v := nI 3) hx hb dL_law_718 (by decide) ?_
  refine lv_iadd hx hb dL_law_719 ?_
  refine va_sld hx hb hX hbl hbA hS (lw_ix hi hL (show 3 < 5 by omega)).1 dL_law_720 ?_
  rw [(lw_ix hi hL (show 3 < 5 by omega)).2]
  refine xcVw (As := [.int (xs (i + 1)), .int (xs (i + 2)), .int (xs (i + 3))]) (rest := []) ⟨hx, hb, hml, hown, htl⟩ (q1.left (WX_fst xa ad cC cF cI cZ cM cS σ σ') (WM ya am cC cF cI cZ cM cS τ)) (cwV 3 htl gL_law_X5_shelf rfl rfl rfl (by decide +kernel) ⟨Nat.le_of_ble_eq_true rfl, Nat.le_of_ble_eq_true rfl⟩) (lw_rx hK hP) hK hP hD hS (fun _ h => h) hE (fst_l (WX_fst xa ad cC cF cI cZ cM cS σ σ')) rfl hl.1 rfl (Nat.le_of_ble_eq_true rfl) dL_law_721 ⟨Nat.le_of_ble_eq_true rfl, Nat.le_of_ble_eq_true rfl⟩ (fun H locs hP hD hS => ?_)
  refine lv_aload_n hx hb dL_law_724 rfl (lv_at hl 2 rfl) ?_
  refine lv_aload_n hx hb dL_law_725 rfl (lv_at hl 0 rfl) ?_
  refine lv_iload_n hx hb dL_law_726 rfl (lv_at hl 3 rfl) ?_
  refine lv_iconst (v := nI 1) hx hb dL_law_727 (by decide) ?_
  refine lv_iadd hx hb dL_law_728 ?_
  refine va_sld hx hb hX hbl hbA hS (lw_ix hi hL (show 1 < 5 by omega)).1 dL_law_729 ?_
  rw [(lw_ix hi hL (show 1 < 5 by omega)).2]
  refine lv_aload_n hx hb dL_law_730 rfl (lv_at hl 0 rfl) ?_
  refine lv_iload_n hx hb dL_law_731 rfl (lv_at hl 3 rfl) ?_
  refine lv_iconst (v := nI 2) hx hb dL_law_732 (by decide) ?_
  refine lv_iadd hx hb dL_law_733 ?_
  refine va_sld hx hb hX hbl hbA hS (lw_ix hi hL (show 2 < 5 by omega)).1 dL_law_734 ?_
  rw [(lw_ix hi hL (show 2 < 5 by omega)).2]
  refine lv_aload_n hx hb dL_law_735 rfl (lv_at hl 0 rfl) ?_
  refine lv_iload_n hx hb dL_law_736 rfl (lv_at hl 3 rfl) ?_
  refine lv_iconst (v := nI 3) hx hb dL_law_737 (by decide) ?_
  refine lv_iadd hx hb dL_law_738 ?_
  refine va_sld hx hb hX hbl hbA hS (lw_ix hi hL (show 3 < 5 by omega)).1 dL_law_739 ?_
  rw [(lw_ix hi hL (show 3 < 5 by omega)).2]
  refine xcVw (As := [.int (xs (i + 1)), .int (xs (i + 2)), .int (xs (i + 3))]) (rest := [.int v]) ⟨hx, hb, hml, hown, htl⟩ (q2.right (WM_fst ya am cC cF cI cZ cM cS τ τ') (WX xa ad cC cF cI cZ cM cS σ')) (cwV 3 htl gL_law_X6_shelf rfl rfl rfl (by decide +kernel) ⟨Nat.le_of_ble_eq_true rfl, Nat.le_of_ble_eq_true rfl⟩) (lw_rm hK hP) hK hP hD hS (fun _ h => h) hE (fst_r (WM_fst ya am cC cF cI cZ cM cS τ τ')) rfl hl.1 rfl (Nat.le_of_ble_eq_true rfl) dL_law_740 ⟨Nat.le_of_ble_eq_true rfl, Nat.le_of_ble_eq_true rfl⟩ (fun H locs hP hD hS => ?_)
  refine lv_icmp_eq (tgt := 999) hx hb dL_law_743 (by decide) (fun _ => kk σ' τ' H locs hR' hP hD hS) (fun z => absurd rfl z)
set_option maxHeartbeats 1000000 in
set_option maxRecDepth 100000 in
theorem lw_c23 {p : Program} {l : Launch} {e : Env} {s : State} {m : MethodId} {below : List Frame} {meth : Method} {c : Code} {b L : Nat} {xs : Nat → Int32} {Q : State → Prop} {D : va_G} {adK adV : Nat → Nat} {cC cF cI cZ cM cS : ClassId} {xa ya : Nat} {ad am : Nat → Nat} {σ : XS} {τ : RS} {H : Heap} {locs : List Loc} {ls : Array Slot} {i : Nat} (C0 : lw_At p s m meth c b L xs) (hK : va_K D vwCl (tysX cC cF cI cZ cM cS) s) (hE : Ev s.heap.size adK adV s s.heap) (hR : RR σ τ) (hP : va_P D vwCl (WX xa ad cC cF cI cZ cM cS σ ++ WM ya am cC cF cI cZ cM cS τ) H) (hD : va_D (fun q : Nat => s.heap.size ≤ q) (WX xa ad cC cF cI cZ cM cS σ ++ WM ya am cC cF cI cZ cM cS τ)) (hS : va_S (fun q : Nat => s.heap.size ≤ q) s.heap H locs) (hi : i + 5 ≤ L) (hL : L ≤ 2560) (hl : lv_has ls 4 [(0, .ref b), (1, .ref xa), (2, .ref ya), (3, .int (nI i))])
    (kk : ∀ (σ' : XS) (τ' : RS) (H' : Heap) (locs' : List Loc), RR σ' τ' → va_P D vwCl (WX xa ad cC cF cI cZ cM cS σ' ++ WM ya am cC cF cI cZ cM cS τ') H' → va_D (fun q : Nat => s.heap.size ≤ q) (WX xa ad cC cF cI cZ cM cS σ' ++ WM ya am cC cF cI cZ cM cS τ') → va_S (fun q : Nat => s.heap.size ≤ q) s.heap H' locs' → W p l e room_1 s m #[Value.ref b] below meth c H' locs' lwC lwS Q (F0 m 999 ls [])) : W p l e room_1 s m #[Value.ref b] below meth c H locs lwC lwS Q (F0 m 748 ls []) := by
  obtain ⟨hx, hb, hr, hml, hown, hts, hX, hbl, hlocks, hgv⟩ := id C0
  have htl : ∀ w ∈ wsL_law, w.before #[Value.ref b] s = true := fun w h => hts w (wsL_law_in w h)
  have hbA : ¬ (fun q : Nat => s.heap.size ≤ q) b := Nat.not_le.mpr hbl
  obtain ⟨v, σ', τ', q1, q2, hR'⟩ := do_lay (l := l) (D := D) (B := s.heap.size) (adK := adK) (adV := adV) (cC := cC) (cF := cF) (cI := cI) (cZ := cZ) (cM := cM) (cS := cS) (xa := xa) (ad := ad) (ya := ya) (am := am) hR (xs (i + 1)) (xs (i + 2)) (xs (i + 3)) (xs (i + 4))
  refine lv_aload_n hx hb dL_law_748 rfl (lv_at hl 1 rfl) ?_
  refine lv_aload_n hx hb dL_law_749 rfl (lv_at hl 0 rfl) ?_
  refine lv_iload_n hx hb dL_law_750 rfl (lv_at hl 3 rfl) ?_
  refine lv_iconst (v := nI 1) hx hb dL_law_751 (by decide) ?_
  refine lv_iadd hx hb dL_law_752 ?_
  refine va_sld hx hb hX hbl hbA hS (lw_ix hi hL (show 1 < 5 by omega)).1 dL_law_753 ?_
  rw [(lw_ix hi hL (show 1 < 5 by omega)).2]
  refine lv_aload_n hx hb dL_law_754 rfl (lv_at hl 0 rfl) ?_
  refine lv_iload_n hx hb dL_law_755 rfl (lv_at hl 3 rfl) ?_
  refine lv_iconst (v := nI 2) hx hb dL_law_756 (by decide) ?_
  refine lv_iadd hx hb dL_law_757 ?_
  refine va_sld hx hb hX hbl hbA hS (lw_ix hi hL (show 2 < 5 by omega)).1 dL_law_758 ?_
  rw [(lw_ix hi hL (show 2 < 5 by omega)).2]
  refine lv_aload_n hx hb dL_law_759 rfl (lv_at hl 0 rfl) ?_
  refine lv_iload_n hx hb dL_law_760 rfl (lv_at hl 3 rfl) ?_
  refine lv_iconst (v := nI 3) hx hb dL_law_761 (by decide) ?_
  refine lv_iadd hx hb dL_law_762 ?_
  refine va_sld hx hb hX hbl hbA hS (lw_ix hi hL (show 3 < 5 by omega)).1 dL_law_763 ?_
  rw [(lw_ix hi hL (show 3 < 5 by omega)).2]
  refine lv_aload_n hx hb dL_law_764 rfl (lv_at hl 0 rfl) ?_
  refine lv_iload_n hx hb dL_law_765 rfl (lv_at hl 3 rfl) ?_
  refine lv_iconst (v := nI 4) hx hb dL_law_766 (by decide) ?_
  refine lv_iadd hx hb dL_law_767 ?_
  refine va_sld hx hb hX hbl hbA hS (lw_ix hi hL (show 4 < 5 by omega)).1 dL_law_768 ?_
  rw [(lw_ix hi hL (show 4 < 5 by omega)).2]
  refine xcVw (As := [.int (xs (i + 1)), .int (xs (i + 2)), .int (xs (i + 3)), .int (xs (i + 4))]) (rest := []) ⟨hx, hb, hml, hown, htl⟩ (q1.left (WX_fst xa ad cC cF cI cZ cM cS σ σ') (WM ya am cC cF cI cZ cM cS τ)) (cwV 4 htl gL_law_X5_lay rfl rfl rfl (by decide +kernel) ⟨Nat.le_of_ble_eq_true rfl, Nat.le_of_ble_eq_true rfl⟩) (lw_rx hK hP) hK hP hD hS (fun _ h => h) hE (fst_l (WX_fst xa ad cC cF cI cZ cM cS σ σ')) rfl hl.1 rfl (Nat.le_of_ble_eq_true rfl) dL_law_769 ⟨Nat.le_of_ble_eq_true rfl, Nat.le_of_ble_eq_true rfl⟩ (fun H locs hP hD hS => ?_)
  refine lv_aload_n hx hb dL_law_772 rfl (lv_at hl 2 rfl) ?_
  refine lv_aload_n hx hb dL_law_773 rfl (lv_at hl 0 rfl) ?_
  refine lv_iload_n hx hb dL_law_774 rfl (lv_at hl 3 rfl) ?_
  refine lv_iconst (v := nI 1) hx hb dL_law_775 (by decide) ?_
  refine lv_iadd hx hb dL_law_776 ?_
  refine va_sld hx hb hX hbl hbA hS (lw_ix hi hL (show 1 < 5 by omega)).1 dL_law_777 ?_
  rw [(lw_ix hi hL (show 1 < 5 by omega)).2]
  refine lv_aload_n hx hb dL_law_778 rfl (lv_at hl 0 rfl) ?_
  refine lv_iload_n hx hb dL_law_779 rfl (lv_at hl 3 rfl) ?_
  refine lv_iconst (v := nI 2) hx hb dL_law_780 (by decide) ?_
  refine lv_iadd hx hb dL_law_781 ?_
  refine va_sld hx hb hX hbl hbA hS (lw_ix hi hL (show 2 < 5 by omega)).1 dL_law_782 ?_
  rw [(lw_ix hi hL (show 2 < 5 by omega)).2]
  refine lv_aload_n hx hb dL_law_783 rfl (lv_at hl 0 rfl) ?_
  refine lv_iload_n hx hb dL_law_784 rfl (lv_at hl 3 rfl) ?_
  refine lv_iconst (v := nI 3) hx hb dL_law_785 (by decide) ?_
  refine lv_iadd hx hb dL_law_786 ?_
  refine va_sld hx hb hX hbl hbA hS (lw_ix hi hL (show 3 < 5 by omega)).1 dL_law_787 ?_
  rw [(lw_ix hi hL (show 3 < 5 by omega)).2]
  refine lv_aload_n hx hb dL_law_788 rfl (lv_at hl 0 rfl) ?_
  refine lv_iload_n hx hb dL_law_789 rfl (lv_at hl 3 rfl) ?_
  refine lv_iconst (v := nI 4) hx hb dL_law_790 (by decide) ?_
  refine lv_iadd hx hb dL_law_791 ?_
  refine va_sld hx hb hX hbl hbA hS (lw_ix hi hL (show 4 < 5 by omega)).1 dL_law_792 ?_
  rw [(lw_ix hi hL (show 4 < 5 by omega)).2]
  refine xcVw (As := [.int (xs (i + 1)), .int (xs (i + 2)), .int (xs (i + 3)), .int (xs (i + 4))]) (rest := [.int v]) ⟨hx, hb, hml, hown, htl⟩ (q2.right (WM_fst ya am cC cF cI cZ cM cS τ τ') (WX xa ad cC cF cI cZ cM cS σ')) (cwV 4 htl gL_law_X6_lay rfl rfl rfl (by decide +kernel) ⟨Nat.le_of_ble_eq_true rfl, Nat.le_of_ble_eq_true rfl⟩) (lw_rm hK hP) hK hP hD hS (fun _ h => h) hE (fst_r (WM_fst ya am cC cF cI cZ cM cS τ τ')) rfl hl.1 rfl (Nat.le_of_ble_eq_true rfl) dL_law_793 ⟨Nat.le_of_ble_eq_true rfl, Nat.le_of_ble_eq_true rfl⟩ (fun H locs hP hD hS => ?_)
  refine lv_icmp_eq (tgt := 999) hx hb dL_law_796 (by decide) (fun _ => kk σ' τ' H locs hR' hP hD hS) (fun z => absurd rfl z)
set_option maxHeartbeats 1000000 in
set_option maxRecDepth 100000 in
theorem lw_c24 {p : Program} {l : Launch} {e : Env} {s : State} {m : MethodId} {below : List Frame} {meth : Method} {c : Code} {b L : Nat} {xs : Nat → Int32} {Q : State → Prop} {D : va_G} {adK adV : Nat → Nat} {cC cF cI cZ cM cS : ClassId} {xa ya : Nat} {ad am : Nat → Nat} {σ : XS} {τ : RS} {H : Heap} {locs : List Loc} {ls : Array Slot} {i : Nat} (C0 : lw_At p s m meth c b L xs) (hK : va_K D vwCl (tysX cC cF cI cZ cM cS) s) (hE : Ev s.heap.size adK adV s s.heap) (hR : RR σ τ) (hP : va_P D vwCl (WX xa ad cC cF cI cZ cM cS σ ++ WM ya am cC cF cI cZ cM cS τ) H) (hD : va_D (fun q : Nat => s.heap.size ≤ q) (WX xa ad cC cF cI cZ cM cS σ ++ WM ya am cC cF cI cZ cM cS τ)) (hS : va_S (fun q : Nat => s.heap.size ≤ q) s.heap H locs) (hi : i + 5 ≤ L) (hL : L ≤ 2560) (hl : lv_has ls 4 [(0, .ref b), (1, .ref xa), (2, .ref ya), (3, .int (nI i))])
    (kk : ∀ (σ' : XS) (τ' : RS) (H' : Heap) (locs' : List Loc), RR σ' τ' → va_P D vwCl (WX xa ad cC cF cI cZ cM cS σ' ++ WM ya am cC cF cI cZ cM cS τ') H' → va_D (fun q : Nat => s.heap.size ≤ q) (WX xa ad cC cF cI cZ cM cS σ' ++ WM ya am cC cF cI cZ cM cS τ') → va_S (fun q : Nat => s.heap.size ≤ q) s.heap H' locs' → W p l e room_1 s m #[Value.ref b] below meth c H' locs' lwC lwS Q (F0 m 999 ls [])) : W p l e room_1 s m #[Value.ref b] below meth c H locs lwC lwS Q (F0 m 801 ls []) := by
  obtain ⟨hx, hb, hr, hml, hown, hts, hX, hbl, hlocks, hgv⟩ := id C0
  have htl : ∀ w ∈ wsL_law, w.before #[Value.ref b] s = true := fun w h => hts w (wsL_law_in w h)
  have hbA : ¬ (fun q : Nat => s.heap.size ≤ q) b := Nat.not_le.mpr hbl
  obtain ⟨v, σ', τ', q1, q2, hR'⟩ := do_look (l := l) (D := D) (B := s.heap.size) (adK := adK) (adV := adV) (cC := cC) (cF := cF) (cI := cI) (cZ := cZ) (cM := cM) (cS := cS) (xa := xa) (ad := ad) (ya := ya) (am := am) hR (xs (i + 1)) (xs (i + 2))
  refine lv_aload_n hx hb dL_law_801 rfl (lv_at hl 1 rfl) ?_
  refine lv_aload_n hx hb dL_law_802 rfl (lv_at hl 0 rfl) ?_
  refine lv_iload_n hx hb dL_law_803 rfl (lv_at hl 3 rfl) ?_
  refine lv_iconst (v := nI 1) hx hb dL_law_804 (by decide) ?_
  refine lv_iadd hx hb dL_law_805 ?_
  refine va_sld hx hb hX hbl hbA hS (lw_ix hi hL (show 1 < 5 by omega)).1 dL_law_806 ?_
  rw [(lw_ix hi hL (show 1 < 5 by omega)).2]
  refine lv_aload_n hx hb dL_law_807 rfl (lv_at hl 0 rfl) ?_
  refine lv_iload_n hx hb dL_law_808 rfl (lv_at hl 3 rfl) ?_
  refine lv_iconst (v := nI 2) hx hb dL_law_809 (by decide) ?_
  refine lv_iadd hx hb dL_law_810 ?_
  refine va_sld hx hb hX hbl hbA hS (lw_ix hi hL (show 2 < 5 by omega)).1 dL_law_811 ?_
  rw [(lw_ix hi hL (show 2 < 5 by omega)).2]
  refine xcVw (As := [.int (xs (i + 1)), .int (xs (i + 2))]) (rest := []) ⟨hx, hb, hml, hown, htl⟩ (q1.left (WX_fst xa ad cC cF cI cZ cM cS σ σ') (WM ya am cC cF cI cZ cM cS τ)) (cwV 2 htl gL_law_X5_look rfl rfl rfl (by decide +kernel) ⟨Nat.le_of_ble_eq_true rfl, Nat.le_of_ble_eq_true rfl⟩) (lw_rx hK hP) hK hP hD hS (fun _ h => h) hE (fst_l (WX_fst xa ad cC cF cI cZ cM cS σ σ')) rfl hl.1 rfl (Nat.le_of_ble_eq_true rfl) dL_law_812 ⟨Nat.le_of_ble_eq_true rfl, Nat.le_of_ble_eq_true rfl⟩ (fun H locs hP hD hS => ?_)
  refine lv_aload_n hx hb dL_law_815 rfl (lv_at hl 2 rfl) ?_
  refine lv_aload_n hx hb dL_law_816 rfl (lv_at hl 0 rfl) ?_
  refine lv_iload_n hx hb dL_law_817 rfl (lv_at hl 3 rfl) ?_
  refine lv_iconst (v := nI 1) hx hb dL_law_818 (by decide) ?_
  refine lv_iadd hx hb dL_law_819 ?_
  refine va_sld hx hb hX hbl hbA hS (lw_ix hi hL (show 1 < 5 by omega)).1 dL_law_820 ?_
  rw [(lw_ix hi hL (show 1 < 5 by omega)).2]
  refine lv_aload_n hx hb dL_law_821 rfl (lv_at hl 0 rfl) ?_
  refine lv_iload_n hx hb dL_law_822 rfl (lv_at hl 3 rfl) ?_
  refine lv_iconst (v := nI 2) hx hb dL_law_823 (by decide) ?_
  refine lv_iadd hx hb dL_law_824 ?_
  refine va_sld hx hb hX hbl hbA hS (lw_ix hi hL (show 2 < 5 by omega)).1 dL_law_825 ?_
  rw [(lw_ix hi hL (show 2 < 5 by omega)).2]
  refine xcVw (As := [.int (xs (i + 1)), .int (xs (i + 2))]) (rest := [.int v]) ⟨hx, hb, hml, hown, htl⟩ (q2.right (WM_fst ya am cC cF cI cZ cM cS τ τ') (WX xa ad cC cF cI cZ cM cS σ')) (cwV 2 htl gL_law_X6_look rfl rfl rfl (by decide +kernel) ⟨Nat.le_of_ble_eq_true rfl, Nat.le_of_ble_eq_true rfl⟩) (lw_rm hK hP) hK hP hD hS (fun _ h => h) hE (fst_r (WM_fst ya am cC cF cI cZ cM cS τ τ')) rfl hl.1 rfl (Nat.le_of_ble_eq_true rfl) dL_law_826 ⟨Nat.le_of_ble_eq_true rfl, Nat.le_of_ble_eq_true rfl⟩ (fun H locs hP hD hS => ?_)
  refine lv_icmp_eq (tgt := 999) hx hb dL_law_829 (by decide) (fun _ => kk σ' τ' H locs hR' hP hD hS) (fun z => absurd rfl z)
set_option maxHeartbeats 1000000 in
set_option maxRecDepth 100000 in
theorem lw_c25 {p : Program} {l : Launch} {e : Env} {s : State} {m : MethodId} {below : List Frame} {meth : Method} {c : Code} {b L : Nat} {xs : Nat → Int32} {Q : State → Prop} {D : va_G} {adK adV : Nat → Nat} {cC cF cI cZ cM cS : ClassId} {xa ya : Nat} {ad am : Nat → Nat} {σ : XS} {τ : RS} {H : Heap} {locs : List Loc} {ls : Array Slot} {i : Nat} (C0 : lw_At p s m meth c b L xs) (hK : va_K D vwCl (tysX cC cF cI cZ cM cS) s) (hE : Ev s.heap.size adK adV s s.heap) (hR : RR σ τ) (hP : va_P D vwCl (WX xa ad cC cF cI cZ cM cS σ ++ WM ya am cC cF cI cZ cM cS τ) H) (hD : va_D (fun q : Nat => s.heap.size ≤ q) (WX xa ad cC cF cI cZ cM cS σ ++ WM ya am cC cF cI cZ cM cS τ)) (hS : va_S (fun q : Nat => s.heap.size ≤ q) s.heap H locs) (hi : i + 5 ≤ L) (hL : L ≤ 2560) (hl : lv_has ls 4 [(0, .ref b), (1, .ref xa), (2, .ref ya), (3, .int (nI i))])
    (kk : ∀ (σ' : XS) (τ' : RS) (H' : Heap) (locs' : List Loc), RR σ' τ' → va_P D vwCl (WX xa ad cC cF cI cZ cM cS σ' ++ WM ya am cC cF cI cZ cM cS τ') H' → va_D (fun q : Nat => s.heap.size ≤ q) (WX xa ad cC cF cI cZ cM cS σ' ++ WM ya am cC cF cI cZ cM cS τ') → va_S (fun q : Nat => s.heap.size ≤ q) s.heap H' locs' → W p l e room_1 s m #[Value.ref b] below meth c H' locs' lwC lwS Q (F0 m 999 ls [])) : W p l e room_1 s m #[Value.ref b] below meth c H locs lwC lwS Q (F0 m 834 ls []) := by
  obtain ⟨hx, hb, hr, hml, hown, hts, hX, hbl, hlocks, hgv⟩ := id C0
  have htl : ∀ w ∈ wsL_law, w.before #[Value.ref b] s = true := fun w h => hts w (wsL_law_in w h)
  have hbA : ¬ (fun q : Nat => s.heap.size ≤ q) b := Nat.not_le.mpr hbl
  obtain ⟨v, σ', τ', q1, q2, hR'⟩ := do_lift (l := l) (D := D) (B := s.heap.size) (adK := adK) (adV := adV) (cC := cC) (cF := cF) (cI := cI) (cZ := cZ) (cM := cM) (cS := cS) (xa := xa) (ad := ad) (ya := ya) (am := am) hR (xs (i + 1)) (xs (i + 2))
  refine lv_aload_n hx hb dL_law_834 rfl (lv_at hl 1 rfl) ?_
  refine lv_aload_n hx hb dL_law_835 rfl (lv_at hl 0 rfl) ?_
  refine lv_iload_n hx hb dL_law_836 rfl (lv_at hl 3 rfl) ?_
  refine lv_iconst (v := nI 1) hx hb dL_law_837 (by decide) ?_
  refine lv_iadd hx hb dL_law_838 ?_
  refine va_sld hx hb hX hbl hbA hS (lw_ix hi hL (show 1 < 5 by omega)).1 dL_law_839 ?_
  rw [(lw_ix hi hL (show 1 < 5 by omega)).2]
  refine lv_aload_n hx hb dL_law_840 rfl (lv_at hl 0 rfl) ?_
  refine lv_iload_n hx hb dL_law_841 rfl (lv_at hl 3 rfl) ?_
  refine lv_iconst (v := nI 2) hx hb dL_law_842 (by decide) ?_
  refine lv_iadd hx hb dL_law_843 ?_
  refine va_sld hx hb hX hbl hbA hS (lw_ix hi hL (show 2 < 5 by omega)).1 dL_law_844 ?_
  rw [(lw_ix hi hL (show 2 < 5 by omega)).2]
  refine xcVw (As := [.int (xs (i + 1)), .int (xs (i + 2))]) (rest := []) ⟨hx, hb, hml, hown, htl⟩ (q1.left (WX_fst xa ad cC cF cI cZ cM cS σ σ') (WM ya am cC cF cI cZ cM cS τ)) (cwV 2 htl gL_law_X5_lift rfl rfl rfl (by decide +kernel) ⟨Nat.le_of_ble_eq_true rfl, Nat.le_of_ble_eq_true rfl⟩) (lw_rx hK hP) hK hP hD hS (fun _ h => h) hE (fst_l (WX_fst xa ad cC cF cI cZ cM cS σ σ')) rfl hl.1 rfl (Nat.le_of_ble_eq_true rfl) dL_law_845 ⟨Nat.le_of_ble_eq_true rfl, Nat.le_of_ble_eq_true rfl⟩ (fun H locs hP hD hS => ?_)
  refine lv_aload_n hx hb dL_law_848 rfl (lv_at hl 2 rfl) ?_
  refine lv_aload_n hx hb dL_law_849 rfl (lv_at hl 0 rfl) ?_
  refine lv_iload_n hx hb dL_law_850 rfl (lv_at hl 3 rfl) ?_
  refine lv_iconst (v := nI 1) hx hb dL_law_851 (by decide) ?_
  refine lv_iadd hx hb dL_law_852 ?_
  refine va_sld hx hb hX hbl hbA hS (lw_ix hi hL (show 1 < 5 by omega)).1 dL_law_853 ?_
  rw [(lw_ix hi hL (show 1 < 5 by omega)).2]
  refine lv_aload_n hx hb dL_law_854 rfl (lv_at hl 0 rfl) ?_
  refine lv_iload_n hx hb dL_law_855 rfl (lv_at hl 3 rfl) ?_
  refine lv_iconst (v := nI 2) hx hb dL_law_856 (by decide) ?_
  refine lv_iadd hx hb dL_law_857 ?_
  refine va_sld hx hb hX hbl hbA hS (lw_ix hi hL (show 2 < 5 by omega)).1 dL_law_858 ?_
  rw [(lw_ix hi hL (show 2 < 5 by omega)).2]
  refine xcVw (As := [.int (xs (i + 1)), .int (xs (i + 2))]) (rest := [.int v]) ⟨hx, hb, hml, hown, htl⟩ (q2.right (WM_fst ya am cC cF cI cZ cM cS τ τ') (WX xa ad cC cF cI cZ cM cS σ')) (cwV 2 htl gL_law_X6_lift rfl rfl rfl (by decide +kernel) ⟨Nat.le_of_ble_eq_true rfl, Nat.le_of_ble_eq_true rfl⟩) (lw_rm hK hP) hK hP hD hS (fun _ h => h) hE (fst_r (WM_fst ya am cC cF cI cZ cM cS τ τ')) rfl hl.1 rfl (Nat.le_of_ble_eq_true rfl) dL_law_859 ⟨Nat.le_of_ble_eq_true rfl, Nat.le_of_ble_eq_true rfl⟩ (fun H locs hP hD hS => ?_)
  refine lv_icmp_eq (tgt := 999) hx hb dL_law_862 (by decide) (fun _ => kk σ' τ' H locs hR' hP hD hS) (fun z => absurd rfl z)
set_option maxHeartbeats 1000000 in
set_option maxRecDepth 100000 in
theorem lw_c26 {p : Program} {l : Launch} {e : Env} {s : State} {m : MethodId} {below : List Frame} {meth : Method} {c : Code} {b L : Nat} {xs : Nat → Int32} {Q : State → Prop} {D : va_G} {adK adV : Nat → Nat} {cC cF cI cZ cM cS : ClassId} {xa ya : Nat} {ad am : Nat → Nat} {σ : XS} {τ : RS} {H : Heap} {locs : List Loc} {ls : Array Slot} {i : Nat} (C0 : lw_At p s m meth c b L xs) (hK : va_K D vwCl (tysX cC cF cI cZ cM cS) s) (hE : Ev s.heap.size adK adV s s.heap) (hR : RR σ τ) (hP : va_P D vwCl (WX xa ad cC cF cI cZ cM cS σ ++ WM ya am cC cF cI cZ cM cS τ) H) (hD : va_D (fun q : Nat => s.heap.size ≤ q) (WX xa ad cC cF cI cZ cM cS σ ++ WM ya am cC cF cI cZ cM cS τ)) (hS : va_S (fun q : Nat => s.heap.size ≤ q) s.heap H locs) (hi : i + 5 ≤ L) (hL : L ≤ 2560) (hl : lv_has ls 4 [(0, .ref b), (1, .ref xa), (2, .ref ya), (3, .int (nI i))])
    (kk : ∀ (σ' : XS) (τ' : RS) (H' : Heap) (locs' : List Loc), RR σ' τ' → va_P D vwCl (WX xa ad cC cF cI cZ cM cS σ' ++ WM ya am cC cF cI cZ cM cS τ') H' → va_D (fun q : Nat => s.heap.size ≤ q) (WX xa ad cC cF cI cZ cM cS σ' ++ WM ya am cC cF cI cZ cM cS τ') → va_S (fun q : Nat => s.heap.size ≤ q) s.heap H' locs' → W p l e room_1 s m #[Value.ref b] below meth c H' locs' lwC lwS Q (F0 m 999 ls [])) : W p l e room_1 s m #[Value.ref b] below meth c H locs lwC lwS Q (F0 m 867 ls []) := by
  obtain ⟨hx, hb, hr, hml, hown, hts, hX, hbl, hlocks, hgv⟩ := id C0
  have htl : ∀ w ∈ wsL_law, w.before #[Value.ref b] s = true := fun w h => hts w (wsL_law_in w h)
  have hbA : ¬ (fun q : Nat => s.heap.size ≤ q) b := Nat.not_le.mpr hbl
  obtain ⟨v, σ', τ', q1, q2, hR'⟩ := do_likeness (l := l) (D := D) (B := s.heap.size) (adK := adK) (adV := adV) (cC := cC) (cF := cF) (cI := cI) (cZ := cZ) (cM := cM) (cS := cS) (xa := xa) (ad := ad) (ya := ya) (am := am) hR (xs (i + 1)) (xs (i + 2))
  refine lv_aload_n hx hb dL_law_867 rfl (lv_at hl 1 rfl) ?_
  refine lv_aload_n hx hb dL_law_868 rfl (lv_at hl 0 rfl) ?_
  refine lv_iload_n hx hb dL_law_869 rfl (lv_at hl 3 rfl) ?_
  refine lv_iconst (v := nI 1) hx hb dL_law_870 (by decide) ?_
  refine lv_iadd hx hb dL_law_871 ?_
  refine va_sld hx hb hX hbl hbA hS (lw_ix hi hL (show 1 < 5 by omega)).1 dL_law_872 ?_
  rw [(lw_ix hi hL (show 1 < 5 by omega)).2]
  refine lv_aload_n hx hb dL_law_873 rfl (lv_at hl 0 rfl) ?_
  refine lv_iload_n hx hb dL_law_874 rfl (lv_at hl 3 rfl) ?_
  refine lv_iconst (v := nI 2) hx hb dL_law_875 (by decide) ?_
  refine lv_iadd hx hb dL_law_876 ?_
  refine va_sld hx hb hX hbl hbA hS (lw_ix hi hL (show 2 < 5 by omega)).1 dL_law_877 ?_
  rw [(lw_ix hi hL (show 2 < 5 by omega)).2]
  refine xcVw (As := [.int (xs (i + 1)), .int (xs (i + 2))]) (rest := []) ⟨hx, hb, hml, hown, htl⟩ (q1.left (WX_fst xa ad cC cF cI cZ cM cS σ σ') (WM ya am cC cF cI cZ cM cS τ)) (cwV 2 htl gL_law_X5_likeness rfl rfl rfl (by decide +kernel) ⟨Nat.le_of_ble_eq_true rfl, Nat.le_of_ble_eq_true rfl⟩) (lw_rx hK hP) hK hP hD hS (fun _ h => h) hE (fst_l (WX_fst xa ad cC cF cI cZ cM cS σ σ')) rfl hl.1 rfl (Nat.le_of_ble_eq_true rfl) dL_law_878 ⟨Nat.le_of_ble_eq_true rfl, Nat.le_of_ble_eq_true rfl⟩ (fun H locs hP hD hS => ?_)
  refine lv_aload_n hx hb dL_law_881 rfl (lv_at hl 2 rfl) ?_
  refine lv_aload_n hx hb dL_law_882 rfl (lv_at hl 0 rfl) ?_
  refine lv_iload_n hx hb dL_law_883 rfl (lv_at hl 3 rfl) ?_
  refine lv_iconst (v := nI 1) hx hb dL_law_884 (by decide) ?_
  refine lv_iadd hx hb dL_law_885 ?_
  refine va_sld hx hb hX hbl hbA hS (lw_ix hi hL (show 1 < 5 by omega)).1 dL_law_886 ?_
  rw [(lw_ix hi hL (show 1 < 5 by omega)).2]
  refine lv_aload_n hx hb dL_law_887 rfl (lv_at hl 0 rfl) ?_
  refine lv_iload_n hx hb dL_law_888 rfl (lv_at hl 3 rfl) ?_
  refine lv_iconst (v := nI 2) hx hb dL_law_889 (by decide) ?_
  refine lv_iadd hx hb dL_law_890 ?_
  refine va_sld hx hb hX hbl hbA hS (lw_ix hi hL (show 2 < 5 by omega)).1 dL_law_891 ?_
  rw [(lw_ix hi hL (show 2 < 5 by omega)).2]
  refine xcVw (As := [.int (xs (i + 1)), .int (xs (i + 2))]) (rest := [.int v]) ⟨hx, hb, hml, hown, htl⟩ (q2.right (WM_fst ya am cC cF cI cZ cM cS τ τ') (WX xa ad cC cF cI cZ cM cS σ')) (cwV 2 htl gL_law_X6_likeness rfl rfl rfl (by decide +kernel) ⟨Nat.le_of_ble_eq_true rfl, Nat.le_of_ble_eq_true rfl⟩) (lw_rm hK hP) hK hP hD hS (fun _ h => h) hE (fst_r (WM_fst ya am cC cF cI cZ cM cS τ τ')) rfl hl.1 rfl (Nat.le_of_ble_eq_true rfl) dL_law_892 ⟨Nat.le_of_ble_eq_true rfl, Nat.le_of_ble_eq_true rfl⟩ (fun H locs hP hD hS => ?_)
  refine lv_icmp_eq (tgt := 999) hx hb dL_law_895 (by decide) (fun _ => kk σ' τ' H locs hR' hP hD hS) (fun z => absurd rfl z)
set_option maxHeartbeats 1000000 in
set_option maxRecDepth 100000 in
theorem lw_c27 {p : Program} {l : Launch} {e : Env} {s : State} {m : MethodId} {below : List Frame} {meth : Method} {c : Code} {b L : Nat} {xs : Nat → Int32} {Q : State → Prop} {D : va_G} {adK adV : Nat → Nat} {cC cF cI cZ cM cS : ClassId} {xa ya : Nat} {ad am : Nat → Nat} {σ : XS} {τ : RS} {H : Heap} {locs : List Loc} {ls : Array Slot} {i : Nat} (C0 : lw_At p s m meth c b L xs) (hK : va_K D vwCl (tysX cC cF cI cZ cM cS) s) (hE : Ev s.heap.size adK adV s s.heap) (hR : RR σ τ) (hP : va_P D vwCl (WX xa ad cC cF cI cZ cM cS σ ++ WM ya am cC cF cI cZ cM cS τ) H) (hD : va_D (fun q : Nat => s.heap.size ≤ q) (WX xa ad cC cF cI cZ cM cS σ ++ WM ya am cC cF cI cZ cM cS τ)) (hS : va_S (fun q : Nat => s.heap.size ≤ q) s.heap H locs) (hi : i + 5 ≤ L) (hL : L ≤ 2560) (hl : lv_has ls 4 [(0, .ref b), (1, .ref xa), (2, .ref ya), (3, .int (nI i))])
    (kk : ∀ (σ' : XS) (τ' : RS) (H' : Heap) (locs' : List Loc), RR σ' τ' → va_P D vwCl (WX xa ad cC cF cI cZ cM cS σ' ++ WM ya am cC cF cI cZ cM cS τ') H' → va_D (fun q : Nat => s.heap.size ≤ q) (WX xa ad cC cF cI cZ cM cS σ' ++ WM ya am cC cF cI cZ cM cS τ') → va_S (fun q : Nat => s.heap.size ≤ q) s.heap H' locs' → W p l e room_1 s m #[Value.ref b] below meth c H' locs' lwC lwS Q (F0 m 999 ls [])) : W p l e room_1 s m #[Value.ref b] below meth c H locs lwC lwS Q (F0 m 900 ls []) := by
  obtain ⟨hx, hb, hr, hml, hown, hts, hX, hbl, hlocks, hgv⟩ := id C0
  have htl : ∀ w ∈ wsL_law, w.before #[Value.ref b] s = true := fun w h => hts w (wsL_law_in w h)
  have hbA : ¬ (fun q : Nat => s.heap.size ≤ q) b := Nat.not_le.mpr hbl
  obtain ⟨v, σ', τ', q1, q2, hR'⟩ := do_hand (l := l) (D := D) (B := s.heap.size) (adK := adK) (adV := adV) (cC := cC) (cF := cF) (cI := cI) (cZ := cZ) (cM := cM) (cS := cS) (xa := xa) (ad := ad) (ya := ya) (am := am) hR (xs (i + 1)) (xs (i + 2)) (xs (i + 3)) (xs (i + 4))
  refine lv_aload_n hx hb dL_law_900 rfl (lv_at hl 1 rfl) ?_
  refine lv_aload_n hx hb dL_law_901 rfl (lv_at hl 0 rfl) ?_
  refine lv_iload_n hx hb dL_law_902 rfl (lv_at hl 3 rfl) ?_
  refine lv_iconst (v := nI 1) hx hb dL_law_903 (by decide) ?_
  refine lv_iadd hx hb dL_law_904 ?_
  refine va_sld hx hb hX hbl hbA hS (lw_ix hi hL (show 1 < 5 by omega)).1 dL_law_905 ?_
  rw [(lw_ix hi hL (show 1 < 5 by omega)).2]
  refine lv_aload_n hx hb dL_law_906 rfl (lv_at hl 0 rfl) ?_
  refine lv_iload_n hx hb dL_law_907 rfl (lv_at hl 3 rfl) ?_
  refine lv_iconst (v := nI 2) hx hb dL_law_908 (by decide) ?_
  refine lv_iadd hx hb dL_law_909 ?_
  refine va_sld hx hb hX hbl hbA hS (lw_ix hi hL (show 2 < 5 by omega)).1 dL_law_910 ?_
  rw [(lw_ix hi hL (show 2 < 5 by omega)).2]
  refine lv_aload_n hx hb dL_law_911 rfl (lv_at hl 0 rfl) ?_
  refine lv_iload_n hx hb dL_law_912 rfl (lv_at hl 3 rfl) ?_
  refine lv_iconst (v := nI 3) hx hb dL_law_913 (by decide) ?_
  refine lv_iadd hx hb dL_law_914 ?_
  refine va_sld hx hb hX hbl hbA hS (lw_ix hi hL (show 3 < 5 by omega)).1 dL_law_915 ?_
  rw [(lw_ix hi hL (show 3 < 5 by omega)).2]
  refine lv_aload_n hx hb dL_law_916 rfl (lv_at hl 0 rfl) ?_
  refine lv_iload_n hx hb dL_law_917 rfl (lv_at hl 3 rfl) ?_
  refine lv_iconst (v := nI 4) hx hb dL_law_918 (by decide) ?_
  refine lv_iadd hx hb dL_law_919 ?_
  refine va_sld hx hb hX hbl hbA hS (lw_ix hi hL (show 4 < 5 by omega)).1 dL_law_920 ?_
  rw [(lw_ix hi hL (show 4 < 5 by omega)).2]
  refine xcVw (As := [.int (xs (i + 1)), .int (xs (i + 2)), .int (xs (i + 3)), .int (xs (i + 4))]) (rest := []) ⟨hx, hb, hml, hown, htl⟩ (q1.left (WX_fst xa ad cC cF cI cZ cM cS σ σ') (WM ya am cC cF cI cZ cM cS τ)) (cwV 4 htl gL_law_X5_hand rfl rfl rfl (by decide +kernel) ⟨Nat.le_of_ble_eq_true rfl, Nat.le_of_ble_eq_true rfl⟩) (lw_rx hK hP) hK hP hD hS (fun _ h => h) hE (fst_l (WX_fst xa ad cC cF cI cZ cM cS σ σ')) rfl hl.1 rfl (Nat.le_of_ble_eq_true rfl) dL_law_921 ⟨Nat.le_of_ble_eq_true rfl, Nat.le_of_ble_eq_true rfl⟩ (fun H locs hP hD hS => ?_)
  refine lv_aload_n hx hb dL_law_924 rfl (lv_at hl 2 rfl) ?_
  refine lv_aload_n hx hb dL_law_925 rfl (lv_at hl 0 rfl) ?_
  refine lv_iload_n hx hb dL_law_926 rfl (lv_at hl 3 rfl) ?_
  refine lv_iconst (v := nI 1) hx hb dL_law_927 (by decide) ?_
  refine lv_iadd hx hb dL_law_928 ?_
  refine va_sld hx hb hX hbl hbA hS (lw_ix hi hL (show 1 < 5 by omega)).1 dL_law_929 ?_
  rw [(lw_ix hi hL (show 1 < 5 by omega)).2]
  refine lv_aload_n hx hb dL_law_930 rfl (lv_at hl 0 rfl) ?_
  refine lv_iload_n hx hb dL_law_931 rfl (lv_at hl 3 rfl) ?_
  refine lv_iconst (v := nI 2) hx hb dL_law_932 (by decide) ?_
  refine lv_iadd hx hb dL_law_933 ?_
  refine va_sld hx hb hX hbl hbA hS (lw_ix hi hL (show 2 < 5 by omega)).1 dL_law_934 ?_
  rw [(lw_ix hi hL (show 2 < 5 by omega)).2]
  refine lv_aload_n hx hb dL_law_935 rfl (lv_at hl 0 rfl) ?_
  refine lv_iload_n hx hb dL_law_936 rfl (lv_at hl 3 rfl) ?_
  refine lv_iconst (v := nI 3) hx hb dL_law_937 (by decide) ?_
  refine lv_iadd hx hb dL_law_938 ?_
  refine va_sld hx hb hX hbl hbA hS (lw_ix hi hL (show 3 < 5 by omega)).1 dL_law_939 ?_
  rw [(lw_ix hi hL (show 3 < 5 by omega)).2]
  refine lv_aload_n hx hb dL_law_940 rfl (lv_at hl 0 rfl) ?_
  refine lv_iload_n hx hb dL_law_941 rfl (lv_at hl 3 rfl) ?_
  refine lv_iconst (v := nI 4) hx hb dL_law_942 (by decide) ?_
  refine lv_iadd hx hb dL_law_943 ?_
  refine va_sld hx hb hX hbl hbA hS (lw_ix hi hL (show 4 < 5 by omega)).1 dL_law_944 ?_
  rw [(lw_ix hi hL (show 4 < 5 by omega)).2]
  refine xcVw (As := [.int (xs (i + 1)), .int (xs (i + 2)), .int (xs (i + 3)), .int (xs (i + 4))]) (rest := [.int v]) ⟨hx, hb, hml, hown, htl⟩ (q2.right (WM_fst ya am cC cF cI cZ cM cS τ τ') (WX xa ad cC cF cI cZ cM cS σ')) (cwV 4 htl gL_law_X6_hand rfl rfl rfl (by decide +kernel) ⟨Nat.le_of_ble_eq_true rfl, Nat.le_of_ble_eq_true rfl⟩) (lw_rm hK hP) hK hP hD hS (fun _ h => h) hE (fst_r (WM_fst ya am cC cF cI cZ cM cS τ τ')) rfl hl.1 rfl (Nat.le_of_ble_eq_true rfl) dL_law_945 ⟨Nat.le_of_ble_eq_true rfl, Nat.le_of_ble_eq_true rfl⟩ (fun H locs hP hD hS => ?_)
  refine lv_icmp_eq (tgt := 999) hx hb dL_law_948 (by decide) (fun _ => kk σ' τ' H locs hR' hP hD hS) (fun z => absurd rfl z)
set_option maxHeartbeats 1000000 in
set_option maxRecDepth 100000 in
theorem lw_c28 {p : Program} {l : Launch} {e : Env} {s : State} {m : MethodId} {below : List Frame} {meth : Method} {c : Code} {b L : Nat} {xs : Nat → Int32} {Q : State → Prop} {D : va_G} {adK adV : Nat → Nat} {cC cF cI cZ cM cS : ClassId} {xa ya : Nat} {ad am : Nat → Nat} {σ : XS} {τ : RS} {H : Heap} {locs : List Loc} {ls : Array Slot} {i : Nat} (C0 : lw_At p s m meth c b L xs) (hK : va_K D vwCl (tysX cC cF cI cZ cM cS) s) (hE : Ev s.heap.size adK adV s s.heap) (hR : RR σ τ) (hP : va_P D vwCl (WX xa ad cC cF cI cZ cM cS σ ++ WM ya am cC cF cI cZ cM cS τ) H) (hD : va_D (fun q : Nat => s.heap.size ≤ q) (WX xa ad cC cF cI cZ cM cS σ ++ WM ya am cC cF cI cZ cM cS τ)) (hS : va_S (fun q : Nat => s.heap.size ≤ q) s.heap H locs) (hi : i + 5 ≤ L) (hL : L ≤ 2560) (hl : lv_has ls 4 [(0, .ref b), (1, .ref xa), (2, .ref ya), (3, .int (nI i))])
    (kk : ∀ (σ' : XS) (τ' : RS) (H' : Heap) (locs' : List Loc), RR σ' τ' → va_P D vwCl (WX xa ad cC cF cI cZ cM cS σ' ++ WM ya am cC cF cI cZ cM cS τ') H' → va_D (fun q : Nat => s.heap.size ≤ q) (WX xa ad cC cF cI cZ cM cS σ' ++ WM ya am cC cF cI cZ cM cS τ') → va_S (fun q : Nat => s.heap.size ≤ q) s.heap H' locs' → W p l e room_1 s m #[Value.ref b] below meth c H' locs' lwC lwS Q (F0 m 999 ls [])) : W p l e room_1 s m #[Value.ref b] below meth c H locs lwC lwS Q (F0 m 953 ls []) := by
  obtain ⟨hx, hb, hr, hml, hown, hts, hX, hbl, hlocks, hgv⟩ := id C0
  have htl : ∀ w ∈ wsL_law, w.before #[Value.ref b] s = true := fun w h => hts w (wsL_law_in w h)
  have hbA : ¬ (fun q : Nat => s.heap.size ≤ q) b := Nat.not_le.mpr hbl
  obtain ⟨v, σ', τ', q1, q2, hR'⟩ := do_drop (l := l) (D := D) (B := s.heap.size) (adK := adK) (adV := adV) (cC := cC) (cF := cF) (cI := cI) (cZ := cZ) (cM := cM) (cS := cS) (xa := xa) (ad := ad) (ya := ya) (am := am) hR (xs (i + 1))
  refine lv_aload_n hx hb dL_law_953 rfl (lv_at hl 1 rfl) ?_
  refine lv_aload_n hx hb dL_law_954 rfl (lv_at hl 0 rfl) ?_
  refine lv_iload_n hx hb dL_law_955 rfl (lv_at hl 3 rfl) ?_
  refine lv_iconst (v := nI 1) hx hb dL_law_956 (by decide) ?_
  refine lv_iadd hx hb dL_law_957 ?_
  refine va_sld hx hb hX hbl hbA hS (lw_ix hi hL (show 1 < 5 by omega)).1 dL_law_958 ?_
  rw [(lw_ix hi hL (show 1 < 5 by omega)).2]
  refine xcVw (As := [.int (xs (i + 1))]) (rest := []) ⟨hx, hb, hml, hown, htl⟩ (q1.left (WX_fst xa ad cC cF cI cZ cM cS σ σ') (WM ya am cC cF cI cZ cM cS τ)) (cwV 1 htl gL_law_X5_drop rfl rfl rfl (by decide +kernel) ⟨Nat.le_of_ble_eq_true rfl, Nat.le_of_ble_eq_true rfl⟩) (lw_rx hK hP) hK hP hD hS (fun _ h => h) hE (fst_l (WX_fst xa ad cC cF cI cZ cM cS σ σ')) rfl hl.1 rfl (Nat.le_of_ble_eq_true rfl) dL_law_959 ⟨Nat.le_of_ble_eq_true rfl, Nat.le_of_ble_eq_true rfl⟩ (fun H locs hP hD hS => ?_)
  refine lv_aload_n hx hb dL_law_962 rfl (lv_at hl 2 rfl) ?_
  refine lv_aload_n hx hb dL_law_963 rfl (lv_at hl 0 rfl) ?_
  refine lv_iload_n hx hb dL_law_964 rfl (lv_at hl 3 rfl) ?_
  refine lv_iconst (v := nI 1) hx hb dL_law_965 (by decide) ?_
  refine lv_iadd hx hb dL_law_966 ?_
  refine va_sld hx hb hX hbl hbA hS (lw_ix hi hL (show 1 < 5 by omega)).1 dL_law_967 ?_
  rw [(lw_ix hi hL (show 1 < 5 by omega)).2]
  refine xcVw (As := [.int (xs (i + 1))]) (rest := [.int v]) ⟨hx, hb, hml, hown, htl⟩ (q2.right (WM_fst ya am cC cF cI cZ cM cS τ τ') (WX xa ad cC cF cI cZ cM cS σ')) (cwV 1 htl gL_law_X6_drop rfl rfl rfl (by decide +kernel) ⟨Nat.le_of_ble_eq_true rfl, Nat.le_of_ble_eq_true rfl⟩) (lw_rm hK hP) hK hP hD hS (fun _ h => h) hE (fst_r (WM_fst ya am cC cF cI cZ cM cS τ τ')) rfl hl.1 rfl (Nat.le_of_ble_eq_true rfl) dL_law_968 ⟨Nat.le_of_ble_eq_true rfl, Nat.le_of_ble_eq_true rfl⟩ (fun H locs hP hD hS => ?_)
  refine lv_icmp_eq (tgt := 999) hx hb dL_law_971 (by decide) (fun _ => kk σ' τ' H locs hR' hP hD hS) (fun z => absurd rfl z)
set_option maxHeartbeats 1000000 in
set_option maxRecDepth 100000 in
theorem lw_c29 {p : Program} {l : Launch} {e : Env} {s : State} {m : MethodId} {below : List Frame} {meth : Method} {c : Code} {b L : Nat} {xs : Nat → Int32} {Q : State → Prop} {D : va_G} {adK adV : Nat → Nat} {cC cF cI cZ cM cS : ClassId} {xa ya : Nat} {ad am : Nat → Nat} {σ : XS} {τ : RS} {H : Heap} {locs : List Loc} {ls : Array Slot} {i : Nat} (C0 : lw_At p s m meth c b L xs) (hK : va_K D vwCl (tysX cC cF cI cZ cM cS) s) (hE : Ev s.heap.size adK adV s s.heap) (hR : RR σ τ) (hP : va_P D vwCl (WX xa ad cC cF cI cZ cM cS σ ++ WM ya am cC cF cI cZ cM cS τ) H) (hD : va_D (fun q : Nat => s.heap.size ≤ q) (WX xa ad cC cF cI cZ cM cS σ ++ WM ya am cC cF cI cZ cM cS τ)) (hS : va_S (fun q : Nat => s.heap.size ≤ q) s.heap H locs) (hi : i + 5 ≤ L) (hL : L ≤ 2560) (hl : lv_has ls 4 [(0, .ref b), (1, .ref xa), (2, .ref ya), (3, .int (nI i))])
    (kk : ∀ (σ' : XS) (τ' : RS) (H' : Heap) (locs' : List Loc), RR σ' τ' → va_P D vwCl (WX xa ad cC cF cI cZ cM cS σ' ++ WM ya am cC cF cI cZ cM cS τ') H' → va_D (fun q : Nat => s.heap.size ≤ q) (WX xa ad cC cF cI cZ cM cS σ' ++ WM ya am cC cF cI cZ cM cS τ') → va_S (fun q : Nat => s.heap.size ≤ q) s.heap H' locs' → W p l e room_1 s m #[Value.ref b] below meth c H' locs' lwC lwS Q (F0 m 999 ls [])) : W p l e room_1 s m #[Value.ref b] below meth c H locs lwC lwS Q (F0 m 976 ls []) := by
  obtain ⟨hx, hb, hr, hml, hown, hts, hX, hbl, hlocks, hgv⟩ := id C0
  have htl : ∀ w ∈ wsL_law, w.before #[Value.ref b] s = true := fun w h => hts w (wsL_law_in w h)
  have hbA : ¬ (fun q : Nat => s.heap.size ≤ q) b := Nat.not_le.mpr hbl
  obtain ⟨v, σ', τ', q1, q2, hR'⟩ := do_count (l := l) (D := D) (B := s.heap.size) (adK := adK) (adV := adV) (cC := cC) (cF := cF) (cI := cI) (cZ := cZ) (cM := cM) (cS := cS) (xa := xa) (ad := ad) (ya := ya) (am := am) hR (xs (i + 1))
  refine lv_aload_n hx hb dL_law_976 rfl (lv_at hl 1 rfl) ?_
  refine lv_aload_n hx hb dL_law_977 rfl (lv_at hl 0 rfl) ?_
  refine lv_iload_n hx hb dL_law_978 rfl (lv_at hl 3 rfl) ?_
  refine lv_iconst (v := nI 1) hx hb dL_law_979 (by decide) ?_
  refine lv_iadd hx hb dL_law_980 ?_
  refine va_sld hx hb hX hbl hbA hS (lw_ix hi hL (show 1 < 5 by omega)).1 dL_law_981 ?_
  rw [(lw_ix hi hL (show 1 < 5 by omega)).2]
  refine xcVw (As := [.int (xs (i + 1))]) (rest := []) ⟨hx, hb, hml, hown, htl⟩ (q1.left (WX_fst xa ad cC cF cI cZ cM cS σ σ') (WM ya am cC cF cI cZ cM cS τ)) (cwV 1 htl gL_law_X5_count rfl rfl rfl (by decide +kernel) ⟨Nat.le_of_ble_eq_true rfl, Nat.le_of_ble_eq_true rfl⟩) (lw_rx hK hP) hK hP hD hS (fun _ h => h) hE (fst_l (WX_fst xa ad cC cF cI cZ cM cS σ σ')) rfl hl.1 rfl (Nat.le_of_ble_eq_true rfl) dL_law_982 ⟨Nat.le_of_ble_eq_true rfl, Nat.le_of_ble_eq_true rfl⟩ (fun H locs hP hD hS => ?_)
  refine lv_aload_n hx hb dL_law_985 rfl (lv_at hl 2 rfl) ?_
  refine lv_aload_n hx hb dL_law_986 rfl (lv_at hl 0 rfl) ?_
  refine lv_iload_n hx hb dL_law_987 rfl (lv_at hl 3 rfl) ?_
  refine lv_iconst (v := nI 1) hx hb dL_law_988 (by decide) ?_
  refine lv_iadd hx hb dL_law_989 ?_
  refine va_sld hx hb hX hbl hbA hS (lw_ix hi hL (show 1 < 5 by omega)).1 dL_law_990 ?_
  rw [(lw_ix hi hL (show 1 < 5 by omega)).2]
  refine xcVw (As := [.int (xs (i + 1))]) (rest := [.int v]) ⟨hx, hb, hml, hown, htl⟩ (q2.right (WM_fst ya am cC cF cI cZ cM cS τ τ') (WX xa ad cC cF cI cZ cM cS σ')) (cwV 1 htl gL_law_X6_count rfl rfl rfl (by decide +kernel) ⟨Nat.le_of_ble_eq_true rfl, Nat.le_of_ble_eq_true rfl⟩) (lw_rm hK hP) hK hP hD hS (fun _ h => h) hE (fst_r (WM_fst ya am cC cF cI cZ cM cS τ τ')) rfl hl.1 rfl (Nat.le_of_ble_eq_true rfl) dL_law_991 ⟨Nat.le_of_ble_eq_true rfl, Nat.le_of_ble_eq_true rfl⟩ (fun H locs hP hD hS => ?_)
  refine lv_icmp_eq (tgt := 999) hx hb dL_law_994 (by decide) (fun _ => kk σ' τ' H locs hR' hP hD hS) (fun z => absurd rfl z)
