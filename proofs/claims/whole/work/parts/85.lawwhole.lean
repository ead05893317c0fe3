set_option maxHeartbeats 4000000 in
set_option maxRecDepth 100000 in
/-- THE LAW, from its entry -/
theorem whole_start {p : Program} {e : Env} {s : State} {m : MethodId} {below : List Frame} {meth : Method} {c : Code} (l : Launch) (hflags : l.flags = flags0) {b L : Nat} {xs : Nat → Int32} (hL : L ≤ 2560) (C0 : lw_At p s m meth c b L xs) : W p l e room_1 s m #[Value.ref b] below meth c s.heap [] 0 0 (lw_Z below #[Value.ref b] s) (entryFrame m ([Value.ref b] : List Value).toArray 4) := by
  obtain ⟨hx, hb, hr, hml, hown, hts, hX, hbl, hlocks, hgv⟩ := id C0
  have hown : s.vm.findClass RL = some m.cls := hown
  have htl : ∀ w ∈ wsL_law, w.before #[Value.ref b] s = true := fun w h => hts w (wsL_law_in w h)
  obtain ⟨adK, adV, hE⟩ := lw_ev hts hgv
  obtain ⟨D, cC, cF, cI, cZ, cM, cS, hK, hO⟩ := lw_k hts
  obtain ⟨o21, o22, o23, o24, e6, hst⟩ := s6_starts (fun _ => 0) (fun _ => FP.fconst0) (fun _ => 0) (upd (upd (upd (fun _ => 0) 0 (-1)) 1 (-1)) 2 (-1))
  have hA : ∀ q : Nat, s.heap.size ≤ q → (fun q : Nat => s.heap.size ≤ q) q := fun _ h => h
  have hB : ∀ q : Nat, (fun q : Nat => s.heap.size ≤ q) q → s.heap.size ≤ q := fun _ h => h
  have hBz : s.heap.size ≤ s.heap.size := Nat.le_refl _
  have hS : va_S (fun q : Nat => s.heap.size ≤ q) s.heap s.heap [] := va_S.rf
  have hP : va_P D vwCl [] s.heap := fun k q h => by simp at h
  have hD : va_D (fun q : Nat => s.heap.size ≤ q) [] := ⟨fun i j p q h => by simp at h, fun k q h => by simp at h⟩
  have hl := lv_entry ([.ref b]) (n := 4) (Nat.le_of_ble_eq_true rfl)
  rw [lg_entry_eq]
  generalize (lg_sl ([.ref b]) ++ List.replicate (4 - (lg_sl ([.ref b])).length) Slot.unset).toArray = ls at hl ⊢
  have hl : lv_has ls 4 [(0, .ref b)] := hl
  have w1 := htl (.classLink RL 7 RX5) (by decide +kernel)
  have w2 := htl (.instantiable RX5 11) (by decide +kernel)
  have w3 := htl (.initialized RX5) (by decide +kernel)
  have w4 := htl (.methodLink RL 9 yX5_init) (by decide +kernel)
  have w5 := htl (.instanceMethod yX5_init) (by decide +kernel)
  have w6 := htl (.classLink RL 10 RX6) (by decide +kernel)
  have w7 := htl (.instantiable RX6 23) (by decide +kernel)
  have w8 := htl (.initialized RX6) (by decide +kernel)
  have w9 := htl (.methodLink RL 12 yX6_init) (by decide +kernel)
  have w10 := htl (.instanceMethod yX6_init) (by decide +kernel)
  refine va_new (ci := 5) (fs := [.null, .null, .null, .null, .null, .null, .null, .null, .null, .int 0, .int 0]) (C := RX5) (T := TX5) (N := 11) hx hb htl inlX5 tyX5 tyX5_ok hown w1 w2 w3 hK hP hD hS hA rfl (fun j hj => by rcases (show j = 0 ∨ j = 1 ∨ j = 2 ∨ j = 3 ∨ j = 4 ∨ j = 5 ∨ j = 6 ∨ j = 7 ∨ j = 8 ∨ j = 9 ∨ j = 10 by omega) with rfl | rfl | rfl | rfl | rfl | rfl | rfl | rfl | rfl | rfl | rfl <;> rfl) (Nat.le_of_ble_eq_true rfl) (Nat.le_of_ble_eq_true rfl) dL_law_0 (fun xa H hP hD hS => ?_)
  have hP : va_P D vwCl [(xa, .inr (5, [.null, .null, .null, .null, .null, .null, .null, .null, .null, .int 0, .int 0]))] H := hP
  have hD : va_D (fun q : Nat => s.heap.size ≤ q) [(xa, .inr (5, [.null, .null, .null, .null, .null, .null, .null, .null, .null, .int 0, .int 0]))] := hD
  refine lv_dup hx hb dL_law_3 rfl ?_
  refine xcN (As := []) (rest := [.ref xa]) (wr := []) ⟨hx, hb, hml, hown, htl⟩ (n_X5_init l D s.heap.size adK adV cC cF cI cZ cM cS xa) (cwI 0 htl gL_law_X5_init rfl rfl rfl w3 w4 w5 rfl (by decide +kernel) ⟨Nat.le_of_ble_eq_true rfl, Nat.le_of_ble_eq_true rfl⟩) hK hP hD hS hA hB hBz hE hO [0] [] rfl rfl rfl (by decide) (by decide) rfl hl.1 rfl (Nat.le_of_ble_eq_true rfl) dL_law_4 ⟨Nat.le_of_ble_eq_true rfl, Nat.le_of_ble_eq_true rfl⟩ (fun ad H locs hP hD hS => ?_)
  have hP : va_P D vwCl (WX xa ad cC cF cI cZ cM cS xs0) H := hP
  have hD : va_D (fun q : Nat => s.heap.size ≤ q) (WX xa ad cC cF cI cZ cM cS xs0) := hD
  refine lv_astore_n (lv' := [(1, .ref xa), (0, .ref b)]) hx hb dL_law_7 rfl hl (by decide) rfl (fun ls hl => ?_)
  refine va_new (ci := 6) (fs := [.int 0, .int 0, .int 0, .int 0, .null, .null, .null, .null, .int 0, .null, .null, .int 0, .int 0, .int 0, .int 0, .int 0, .int 0, .int 0, .int 0, .null, .null, .null, .null]) (C := RX6) (T := TX6) (N := 23) hx hb htl inlX6 tyX6 tyX6_ok hown w6 w7 w8 hK hP hD hS hA rfl (fun j hj => by rcases (show j = 0 ∨ j = 1 ∨ j = 2 ∨ j = 3 ∨ j = 4 ∨ j = 5 ∨ j = 6 ∨ j = 7 ∨ j = 8 ∨ j = 9 ∨ j = 10 ∨ j = 11 ∨ j = 12 ∨ j = 13 ∨ j = 14 ∨ j = 15 ∨ j = 16 ∨ j = 17 ∨ j = 18 ∨ j = 19 ∨ j = 20 ∨ j = 21 ∨ j = 22 by omega) with rfl | rfl | rfl | rfl | rfl | rfl | rfl | rfl | rfl | rfl | rfl | rfl | rfl | rfl | rfl | rfl | rfl | rfl | rfl | rfl | rfl | rfl | rfl <;> rfl) (Nat.le_of_ble_eq_true rfl) (Nat.le_of_ble_eq_true rfl) dL_law_8 (fun ya H hP hD hS => ?_)
  have hP : va_P D vwCl ((WX xa ad cC cF cI cZ cM cS xs0) ++ [(ya, .inr (6, [.int 0, .int 0, .int 0, .int 0, .null, .null, .null, .null, .int 0, .null, .null, .int 0, .int 0, .int 0, .int 0, .int 0, .int 0, .int 0, .int 0, .null, .null, .null, .null]))]) H := hP
  have hD : va_D (fun q : Nat => s.heap.size ≤ q) ((WX xa ad cC cF cI cZ cM cS xs0) ++ [(ya, .inr (6, [.int 0, .int 0, .int 0, .int 0, .null, .null, .null, .null, .int 0, .null, .null, .int 0, .int 0, .int 0, .int 0, .int 0, .int 0, .int 0, .int 0, .null, .null, .null, .null]))]) := hD
  refine lv_dup hx hb dL_law_11 rfl ?_
  refine xcN (As := []) (rest := [.ref ya]) (wr := (WX xa ad cC cF cI cZ cM cS xs0)) ⟨hx, hb, hml, hown, htl⟩ (n_X6_init l D s.heap.size adK adV cC cF cI cZ cM cS ya o21 o22 o23 o24 0 e6) (cwI 0 htl gL_law_X6_init rfl rfl rfl w8 w9 w10 rfl (by decide +kernel) ⟨Nat.le_of_ble_eq_true rfl, Nat.le_of_ble_eq_true rfl⟩) hK hP hD hS hA hB hBz hE hO [116] (List.range 116) rfl rfl rfl (by decide +kernel) (by decide +kernel) rfl hl.1 rfl (Nat.le_of_ble_eq_true rfl) dL_law_12 ⟨Nat.le_of_ble_eq_true rfl, Nat.le_of_ble_eq_true rfl⟩ (fun am H locs hP hD hS => ?_)
  have hP : va_P D vwCl ((WX xa ad cC cF cI cZ cM cS xs0) ++ (WM ya am cC cF cI cZ cM cS (rs0 o21 o22 o23 o24))) H := hP
  have hD : va_D (fun q : Nat => s.heap.size ≤ q) ((WX xa ad cC cF cI cZ cM cS xs0) ++ (WM ya am cC cF cI cZ cM cS (rs0 o21 o22 o23 o24))) := hD
  refine lv_astore_n (lv' := [(2, .ref ya), (1, .ref xa), (0, .ref b)]) hx hb dL_law_15 rfl hl (by decide) rfl (fun ls hl => ?_)
  refine lv_iconst (v := 0) hx hb dL_law_16 (by decide) ?_
  refine lv_istore_n (lv' := [(3, .int 0), (2, .ref ya), (1, .ref xa), (0, .ref b)]) hx hb dL_law_17 rfl hl (by decide) rfl (fun ls hl => ?_)
  refine W.widen (k := lwC) (n := lwS) (Nat.le_of_ble_eq_true rfl) (Nat.le_of_ble_eq_true rfl) ?_
  exact lw_loop C0 hL hK hE (L + 1) 0 xs0 (rs0 o21 o22 o23 o24) H locs ls (by omega) (by omega) (rr0 hst) hP hD hS (lv_sub hl [3, 2, 1, 0] rfl)
