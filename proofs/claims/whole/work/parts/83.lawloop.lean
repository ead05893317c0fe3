/-! ===== the law's loop ===== -/
theorem and31 (x : Int32) : ∃ k, k < 32 ∧ x &&& 31 = nI k := by
  refine ⟨x.toBitVec.toNat % 32, Nat.mod_lt _ (by omega), ?_⟩
  apply Int32.toBitVec_inj.1
  apply BitVec.eq_of_toNat_eq
  have e1 : (x &&& 31).toBitVec = x.toBitVec &&& (31 : Int32).toBitVec := rfl
  have e3 : (31 : Int32).toBitVec.toNat = 2 ^ 5 - 1 := by decide
  have e4 : (nI (x.toBitVec.toNat % 32)).toBitVec.toNat = (x.toBitVec.toNat % 32) % 2 ^ 32 := rfl
  rw [e1, BitVec.toNat_and, e3, Nat.and_two_pow_sub_one_eq_mod, e4]
  have := Nat.mod_lt x.toBitVec.toNat (show 32 > 0 by omega)
  exact (Nat.mod_eq_of_lt (show x.toBitVec.toNat % 32 < 2 ^ 32 by omega)).symm
theorem sub5 {L : Nat} (hL : L ≤ 2560) : (Int32.ofNat L - 5).toInt = (L : Int) - 5 := by
  have e : (nI L - 5).toInt = (L : Int) - 5 := by
    rw [Int32.toInt_sub, nI_ti (by omega), show (5 : Int32).toInt = 5 from by decide, Int.bmod_eq_of_le (by omega) (by omega)]
  exact e
set_option maxHeartbeats 4000000 in
set_option maxRecDepth 100000 in
theorem lw_loop {p : Program} {l : Launch} {e : Env} {s : State} {m : MethodId} {below : List Frame} {meth : Method} {c : Code} {b L : Nat} {xs : Nat → Int32} {D : va_G} {adK adV : Nat → Nat} {cC cF cI cZ cM cS : ClassId} {xa ya : Nat} {ad am : Nat → Nat}
    (C0 : lw_At p s m meth c b L xs) (hL : L ≤ 2560) (hK : va_K D vwCl (tysX cC cF cI cZ cM cS) s) (hE : Ev s.heap.size adK adV s s.heap) : ∀ (n i : Nat) (σ : XS) (τ : RS) (H : Heap) (locs : List Loc) (ls : Array Slot), L < i + n → i ≤ 2565 → RR σ τ → va_P D vwCl (WX xa ad cC cF cI cZ cM cS σ ++ WM ya am cC cF cI cZ cM cS τ) H → va_D (fun q : Nat => s.heap.size ≤ q) (WX xa ad cC cF cI cZ cM cS σ ++ WM ya am cC cF cI cZ cM cS τ) → va_S (fun q : Nat => s.heap.size ≤ q) s.heap H locs → lv_has ls 4 [(0, .ref b), (1, .ref xa), (2, .ref ya), (3, .int (nI i))] → W p l e room_1 s m #[Value.ref b] below meth c H locs lwC lwS (lw_Z below #[Value.ref b] s) (F0 m 18 ls []) := by
  obtain ⟨hx, hb, hr, hml, hown, hts, hX, hbl, hlocks, hgv⟩ := id C0
  have hbA : ¬ (fun q : Nat => s.heap.size ≤ q) b := Nat.not_le.mpr hbl
  intro n
  induction n with
  | zero =>
    intro i σ τ H locs ls hn hi2 hR hP hD hS hl
    refine lv_iload_n hx hb dL_law_18 rfl (lv_at hl 3 rfl) ?_
    refine lv_aload_n hx hb dL_law_19 rfl (lv_at hl 0 rfl) ?_
    refine va_slen hx hb hX hbl hbA hS dL_law_20 ?_
    refine lv_iconst (v := 5) hx hb dL_law_21 (by decide) ?_
    refine lv_isub hx hb dL_law_22 ?_
    refine lv_icmp_gt (tgt := 1005) hx hb dL_law_23 (by decide) (fun _ => ?_) (fun z => absurd (show Int32.ofNat L - 5 < nI i by rw [toInt_lt, sub5 hL, nI_ti (by omega)]; omega) z)
    refine lv_iconst (v := 1) hx hb dL_law_1005 (by decide) ?_
    refine va_forget hS.2.2 ?_
    refine W.widen (k := 600000) (n := 7302250) (Nat.le_of_ble_eq_true rfl) (Nat.le_of_ble_eq_true rfl) ?_
    exact W.base (lw_ret (Drawn.sameBut.refl s.drawn lw_cs) hx hb hr hlocks dL_law_1006)
  | succ n ih =>
    intro i σ τ H locs ls hn hi2 hR hP hD hS hl
    refine lv_iload_n hx hb dL_law_18 rfl (lv_at hl 3 rfl) ?_
    refine lv_aload_n hx hb dL_law_19 rfl (lv_at hl 0 rfl) ?_
    refine va_slen hx hb hX hbl hbA hS dL_law_20 ?_
    refine lv_iconst (v := 5) hx hb dL_law_21 (by decide) ?_
    refine lv_isub hx hb dL_law_22 ?_
    refine lv_icmp_gt (tgt := 1005) hx hb dL_law_23 (by decide) (fun _ => ?_) (fun z => ?_)
    · refine lv_iconst (v := 1) hx hb dL_law_1005 (by decide) ?_
      refine va_forget hS.2.2 ?_
      refine W.widen (k := 600000) (n := 7302250) (Nat.le_of_ble_eq_true rfl) (Nat.le_of_ble_eq_true rfl) ?_
      exact W.base (lw_ret (Drawn.sameBut.refl s.drawn lw_cs) hx hb hr hlocks dL_law_1006)
    have hi : i + 5 ≤ L := by
      have z' : ¬ Int32.ofNat L - 5 < nI i := z
      rw [toInt_lt, sub5 hL, nI_ti (by omega)] at z'
      omega
    have nxt : ∀ (σ' : XS) (τ' : RS) (H' : Heap) (locs' : List Loc), RR σ' τ' → va_P D vwCl (WX xa ad cC cF cI cZ cM cS σ' ++ WM ya am cC cF cI cZ cM cS τ') H' → va_D (fun q : Nat => s.heap.size ≤ q) (WX xa ad cC cF cI cZ cM cS σ' ++ WM ya am cC cF cI cZ cM cS τ') → va_S (fun q : Nat => s.heap.size ≤ q) s.heap H' locs' → W p l e room_1 s m #[Value.ref b] below meth c H' locs' lwC lwS (lw_Z below #[Value.ref b] s) (F0 m 999 ls []) := by
      intro σ' τ' H' locs' hR' hP' hD' hS'
      refine lv_iinc (v := nI (i + 5)) (lv' := [(3, .int (nI (i + 5))), (0, .ref b), (1, .ref xa), (2, .ref ya)]) hx hb dL_law_999 hl (k := 3) rfl (by rw [show Int32.ofInt 5 = nI 5 from rfl, ad_nI]) (by decide) rfl (fun ls' hl' => ?_)
      refine lv_goto (tgt := 18) hx hb dL_law_1002 (by decide) ?_
      exact ih (i + 5) σ' τ' H' locs' ls' (by omega) (by omega) hR' hP' hD' hS' (lv_sub hl' [1, 2, 3, 0] rfl)
    refine lv_aload_n hx hb dL_law_26 rfl (lv_at hl 0 rfl) ?_
    refine lv_iload_n hx hb dL_law_27 rfl (lv_at hl 3 rfl) ?_
    refine va_sld hx hb hX hbl hbA hS (vp_in_nI (show i < L by omega) (by omega)) dL_law_28 ?_
    refine lv_bipush (v := 31) hx hb dL_law_29 (by decide) ?_
    refine lv_iand hx hb dL_law_31 ?_
    obtain ⟨k, hk, ek⟩ := and31 (xs (nI i).toNatClampNeg)
    rw [ek]
    obtain rfl | rfl | rfl | rfl | rfl | rfl | rfl | rfl | rfl | rfl | rfl | rfl | rfl | rfl | rfl | rfl | rfl | rfl | rfl | rfl | rfl | rfl | rfl | rfl | rfl | rfl | rfl | rfl | rfl | rfl | rfl | rfl : k = 0 ∨ k = 1 ∨ k = 2 ∨ k = 3 ∨ k = 4 ∨ k = 5 ∨ k = 6 ∨ k = 7 ∨ k = 8 ∨ k = 9 ∨ k = 10 ∨ k = 11 ∨ k = 12 ∨ k = 13 ∨ k = 14 ∨ k = 15 ∨ k = 16 ∨ k = 17 ∨ k = 18 ∨ k = 19 ∨ k = 20 ∨ k = 21 ∨ k = 22 ∨ k = 23 ∨ k = 24 ∨ k = 25 ∨ k = 26 ∨ k = 27 ∨ k = 28 ∨ k = 29 ∨ k = 30 ∨ k = 31 := by omega
    · refine lv_tableIn (off := 136) (tgt := 168) hx hb dL_law_32 (by decide) (by decide) (by decide) (by decide) ?_
      exact lw_c0 C0 hK hE hR hP hD hS hi hL hl nxt
    · refine lv_tableIn (off := 159) (tgt := 191) hx hb dL_law_32 (by decide) (by decide) (by decide) (by decide) ?_
      exact lw_c1 C0 hK hE hR hP hD hS hi hL hl nxt
    · refine lv_tableIn (off := 172) (tgt := 204) hx hb dL_law_32 (by decide) (by decide) (by decide) (by decide) ?_
      exact lw_c2 C0 hK hE hR hP hD hS hi hL hl nxt
    · refine lv_tableIn (off := 185) (tgt := 217) hx hb dL_law_32 (by decide) (by decide) (by decide) (by decide) ?_
      exact lw_c3 C0 hK hE hR hP hD hS hi hL hl nxt
    · refine lv_tableIn (off := 198) (tgt := 230) hx hb dL_law_32 (by decide) (by decide) (by decide) (by decide) ?_
      exact lw_c4 C0 hK hE hR hP hD hS hi hL hl nxt
    · refine lv_tableIn (off := 231) (tgt := 263) hx hb dL_law_32 (by decide) (by decide) (by decide) (by decide) ?_
      exact lw_c5 C0 hK hE hR hP hD hS hi hL hl nxt
    · refine lv_tableIn (off := 264) (tgt := 296) hx hb dL_law_32 (by decide) (by decide) (by decide) (by decide) ?_
      exact lw_c6 C0 hK hE hR hP hD hS hi hL hl nxt
    · refine lv_tableIn (off := 297) (tgt := 329) hx hb dL_law_32 (by decide) (by decide) (by decide) (by decide) ?_
      exact lw_c7 C0 hK hE hR hP hD hS hi hL hl nxt
    · refine lv_tableIn (off := 320) (tgt := 352) hx hb dL_law_32 (by decide) (by decide) (by decide) (by decide) ?_
      exact lw_c8 C0 hK hE hR hP hD hS hi hL hl nxt
    · refine lv_tableIn (off := 343) (tgt := 375) hx hb dL_law_32 (by decide) (by decide) (by decide) (by decide) ?_
      exact lw_c9 C0 hK hE hR hP hD hS hi hL hl nxt
    · refine lv_tableIn (off := 356) (tgt := 388) hx hb dL_law_32 (by decide) (by decide) (by decide) (by decide) ?_
      exact lw_c10 C0 hK hE hR hP hD hS hi hL hl nxt
    · refine lv_tableIn (off := 379) (tgt := 411) hx hb dL_law_32 (by decide) (by decide) (by decide) (by decide) ?_
      exact lw_c11 C0 hK hE hR hP hD hS hi hL hl nxt
    · refine lv_tableIn (off := 402) (tgt := 434) hx hb dL_law_32 (by decide) (by decide) (by decide) (by decide) ?_
      exact lw_c12 C0 hK hE hR hP hD hS hi hL hl nxt
    · refine lv_tableIn (off := 435) (tgt := 467) hx hb dL_law_32 (by decide) (by decide) (by decide) (by decide) ?_
      exact lw_c13 C0 hK hE hR hP hD hS hi hL hl nxt
    · refine lv_tableIn (off := 468) (tgt := 500) hx hb dL_law_32 (by decide) (by decide) (by decide) (by decide) ?_
      exact lw_c14 C0 hK hE hR hP hD hS hi hL hl nxt
    · refine lv_tableIn (off := 501) (tgt := 533) hx hb dL_law_32 (by decide) (by decide) (by decide) (by decide) ?_
      exact lw_c15 C0 hK hE hR hP hD hS hi hL hl nxt
    · refine lv_tableIn (off := 524) (tgt := 556) hx hb dL_law_32 (by decide) (by decide) (by decide) (by decide) ?_
      exact lw_c16 C0 hK hE hR hP hD hS hi hL hl nxt
    · refine lv_tableIn (off := 548) (tgt := 580) hx hb dL_law_32 (by decide) (by decide) (by decide) (by decide) ?_
      exact lw_c17 C0 hK hE hR hP hD hS hi hL hl nxt
    · refine lv_tableIn (off := 571) (tgt := 603) hx hb dL_law_32 (by decide) (by decide) (by decide) (by decide) ?_
      exact lw_c18 C0 hK hE hR hP hD hS hi hL hl nxt
    · refine lv_tableIn (off := 594) (tgt := 626) hx hb dL_law_32 (by decide) (by decide) (by decide) (by decide) ?_
      exact lw_c19 C0 hK hE hR hP hD hS hi hL hl nxt
    · refine lv_tableIn (off := 607) (tgt := 639) hx hb dL_law_32 (by decide) (by decide) (by decide) (by decide) ?_
      exact lw_c20 C0 hK hE hR hP hD hS hi hL hl nxt
    · refine lv_tableIn (off := 640) (tgt := 672) hx hb dL_law_32 (by decide) (by decide) (by decide) (by decide) ?_
      exact lw_c21 C0 hK hE hR hP hD hS hi hL hl nxt
    · refine lv_tableIn (off := 673) (tgt := 705) hx hb dL_law_32 (by decide) (by decide) (by decide) (by decide) ?_
      exact lw_c22 C0 hK hE hR hP hD hS hi hL hl nxt
    · refine lv_tableIn (off := 716) (tgt := 748) hx hb dL_law_32 (by decide) (by decide) (by decide) (by decide) ?_
      exact lw_c23 C0 hK hE hR hP hD hS hi hL hl nxt
    · refine lv_tableIn (off := 769) (tgt := 801) hx hb dL_law_32 (by decide) (by decide) (by decide) (by decide) ?_
      exact lw_c24 C0 hK hE hR hP hD hS hi hL hl nxt
    · refine lv_tableIn (off := 802) (tgt := 834) hx hb dL_law_32 (by decide) (by decide) (by decide) (by decide) ?_
      exact lw_c25 C0 hK hE hR hP hD hS hi hL hl nxt
    · refine lv_tableIn (off := 835) (tgt := 867) hx hb dL_law_32 (by decide) (by decide) (by decide) (by decide) ?_
      exact lw_c26 C0 hK hE hR hP hD hS hi hL hl nxt
    · refine lv_tableIn (off := 868) (tgt := 900) hx hb dL_law_32 (by decide) (by decide) (by decide) (by decide) ?_
      exact lw_c27 C0 hK hE hR hP hD hS hi hL hl nxt
    · refine lv_tableIn (off := 921) (tgt := 953) hx hb dL_law_32 (by decide) (by decide) (by decide) (by decide) ?_
      exact lw_c28 C0 hK hE hR hP hD hS hi hL hl nxt
    · refine lv_tableIn (off := 944) (tgt := 976) hx hb dL_law_32 (by decide) (by decide) (by decide) (by decide) ?_
      exact lw_c29 C0 hK hE hR hP hD hS hi hL hl nxt
    · refine lv_tableOut (tgt := 999) hx hb dL_law_32 (by decide) (by decide) ?_
      exact nxt σ τ H locs hR hP hD hS
    · refine lv_tableOut (tgt := 999) hx hb dL_law_32 (by decide) (by decide) ?_
      exact nxt σ τ H locs hR hP hD hS
