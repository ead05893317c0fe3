set_option maxRecDepth 100000 in
set_option maxHeartbeats 4000000 in
theorem c_X4_readMask (l : Launch) (D : va_G) (B : Nat) (adK adV : Nat → Nat) (cC cF cI cZ cM cS : ClassId) (ta : Nat) (tb : Nat) (tln : Int32) (tcl : Int32) (tts : Int32) (tte : Int32) (tam : Int32) (tc : Nat) (tlt : Nat → Int32) (tsv : Nat → Int32) (fa : Nat) (fst : Int32) (fb : Nat) (fwy : Int32) (fc : Nat) (fmk : Int32) (fwt : Int32) (fvl : Nat → Int32) (fpt : Nat → Int32) (zz : Int32 × Int32 × Int32 × Int32 × Int32 × Int32) (hf : f_X4_readMask tln tte tam tlt fmk fwt = some zz) : Ct l yX4_readMask wsX4_readMask { frames := 2, cells := 0, slots := 0, locals := 46 } D B adK adV (tysX cC cF cI cZ cM cS) [.ref ta, .ref fa] [(ta, .inr (4, [.ref tb, .int tln, .int tcl, .int tts, .int tte, .int tam, .ref tc])), (tb, .inl (cC, 200, .inl tlt)), (tc, .inl (cI, 4, .inl tsv)), (fa, .inr (0, [.int fst, .ref fb, .int fwy, .ref fc, .int fmk, .int fwt])), (fb, .inl (cI, 24, .inl fvl)), (fc, .inl (cI, 84, .inl fpt))] [(ta, .inr (4, [.ref tb, .int tln, .int tcl, .int zz.2.1, .int zz.2.2.1, .int zz.2.2.2.1, .ref tc])), (tb, .inl (cC, 200, .inl tlt)), (tc, .inl (cI, 4, .inl tsv)), (fa, .inr (0, [.int fst, .ref fb, .int fwy, .ref fc, .int zz.2.2.2.2.1, .int zz.2.2.2.2.2])), (fb, .inl (cI, 24, .inl fvl)), (fc, .inl (cI, 84, .inl fpt))] (some (.int zz.1)) := by
  refine Ct.ofW (cc := cX4_readMask) (maxL := 3) (ret := (some .boolean)) (by decide) rfl (Nat.le_of_ble_eq_true rfl) ?_
  intro p e s m args below meth c hx hb hr hml hts hown hlocks hnm hK hE A Q hQ hB H locs ls hP hD hS hl
  have hl : lv_has ls 3 [(0, .ref ta), (1, .ref fa)] := hl
  have w0 : ∀ w ∈ u_ws RX4 TX4 7, w ∈ wsX4_readMask := by decide +kernel
  have w1 := hts (.fieldLink RX4 84 "MotionStates$Text" "amount" "I") (by decide +kernel)
  have w2 : ∀ w ∈ u_ws RX0 TX0 6, w ∈ wsX4_readMask := by decide +kernel
  have w3 : (Cond.fieldLinkNest "MotionStates$Text" 125 "MotionStates$Figure" "mask" "I" "MotionStates").before args s = true := va_Nw.use rfl (hE.1 ("MotionStates$Text", 125, "MotionStates$Figure", "mask", "I", "MotionStates") (by decide +kernel))
  have w4 : (Cond.fieldLinkNest "MotionStates$Text" 127 "MotionStates$Figure" "weight" "I" "MotionStates").before args s = true := va_Nw.use rfl (hE.1 ("MotionStates$Text", 127, "MotionStates$Figure", "weight", "I", "MotionStates") (by decide +kernel))
  unfold f_X4_readMask at hf
  refine lv_aload_n hx hb dX4_readMask_0 rfl (lv_at hl 0 rfl) ?_
  obtain ⟨⟨o1, o2⟩, hc3, hf⟩ := bd_inv hf
  refine xcV (As := []) (rest := []) (ws' := [(ta, .inr (4, [.ref tb, .int tln, .int tcl, .int o1, .int o2, .int tam, .ref tc])), (tb, .inl (cC, 200, .inl tlt)), (tc, .inl (cI, 4, .inl tsv)), (fa, .inr (0, [.int fst, .ref fb, .int fwy, .ref fc, .int fmk, .int fwt])), (fb, .inl (cI, 24, .inl fvl)), (fc, .inl (cI, 84, .inl fpt))]) ⟨hx, hb, hml, hown, hts⟩ (c_X4_advance l D B adK adV cC cF cI cZ cM cS ta tb tln tcl tts tte tam tc tlt tsv  (o1, o2) hc3) (cwV 0 hts gX4_readMask_X4_advance rfl rfl rfl (by decide +kernel) ⟨Nat.le_of_ble_eq_true rfl, Nat.le_of_ble_eq_true rfl⟩) (va_recv hK hP (ci := 4) (q0 := 0) rfl rfl) hK hP hD hS hB hE [0, 1, 2] rfl rfl rfl rfl rfl hl.1 rfl (Nat.le_of_ble_eq_true rfl) dX4_readMask_1 ⟨Nat.le_of_ble_eq_true rfl, Nat.le_of_ble_eq_true rfl⟩ (fun H locs hP hD hS => ?_)
  refine W.eq (g2 := F0 m 4 ls []) rfl ?_
  refine lv_aload_n hx hb dX4_readMask_4 rfl (lv_at hl 0 rfl) ?_
  refine lv_bipush (v := 15) hx hb dX4_readMask_5 (by decide) ?_
  obtain ⟨⟨r4, o5, o6, o7⟩, hc8, hf⟩ := bd_inv hf
  refine xcV (As := [.int 15]) (rest := []) (ws' := [(ta, .inr (4, [.ref tb, .int tln, .int tcl, .int o5, .int o6, .int o7, .ref tc])), (tb, .inl (cC, 200, .inl tlt)), (tc, .inl (cI, 4, .inl tsv)), (fa, .inr (0, [.int fst, .ref fb, .int fwy, .ref fc, .int fmk, .int fwt])), (fb, .inl (cI, 24, .inl fvl)), (fc, .inl (cI, 84, .inl fpt))]) ⟨hx, hb, hml, hown, hts⟩ (c_X4_readUpTo l D B adK adV cC cF cI cZ cM cS ta tb tln tcl o1 o2 tam tc tlt tsv 15  (r4, o5, o6, o7) hc8) (cwV 1 hts gX4_readMask_X4_readUpTo rfl rfl rfl (by decide +kernel) ⟨Nat.le_of_ble_eq_true rfl, Nat.le_of_ble_eq_true rfl⟩) (va_recv hK hP (ci := 4) (q0 := 0) rfl rfl) hK hP hD hS hB hE [0, 1, 2] rfl rfl rfl rfl rfl hl.1 rfl (Nat.le_of_ble_eq_true rfl) dX4_readMask_7 ⟨Nat.le_of_ble_eq_true rfl, Nat.le_of_ble_eq_true rfl⟩ (fun H locs hP hD hS => ?_)
  refine W.eq (g2 := F0 m 10 ls [.int r4]) rfl ?_
  refine lv_if_ne (tgt := 15) hx hb dX4_readMask_10 (by decide) (fun c9 => ?_) (fun c9 => ?_)
  · have hf := if_n c9 hf
    refine lv_aload_n hx hb dX4_readMask_15 rfl (lv_at hl 0 rfl) ?_
    refine va_get (D := D) (ci := 4) (v := .int o7) (C := RX4) (T := TX4) (N := 7) hx hb hts w0 hown hK hP 0 rfl rfl 5 (by decide) w1 (fun _ h9 => h9) rfl dX4_readMask_16 ?_
    refine lv_istore_n (lv' := [(2, .int o7), (0, .ref ta), (1, .ref fa)]) hx hb dX4_readMask_19 rfl hl (by decide) rfl (fun ls hl => ?_)
    refine lv_aload_n hx hb dX4_readMask_20 rfl (lv_at hl 1 rfl) ?_
    refine lv_bipush (v := 16) hx hb dX4_readMask_21 (by decide) ?_
    obtain ⟨⟨r10, o11, o12, o13⟩, hc14, hf⟩ := bd_inv hf
    refine xcV (As := [.int 16]) (rest := []) (ws' := [(ta, .inr (4, [.ref tb, .int tln, .int tcl, .int o11, .int o12, .int o13, .ref tc])), (tb, .inl (cC, 200, .inl tlt)), (tc, .inl (cI, 4, .inl tsv)), (fa, .inr (0, [.int fst, .ref fb, .int fwy, .ref fc, .int fmk, .int fwt])), (fb, .inl (cI, 24, .inl fvl)), (fc, .inl (cI, 84, .inl fpt))]) ⟨hx, hb, hml, hown, hts⟩ (c_X4_readUpTo l D B adK adV cC cF cI cZ cM cS ta tb tln tcl o5 o6 o7 tc tlt tsv 16  (r10, o11, o12, o13) hc14) (cwV 1 hts gX4_readMask_X4_readUpTo rfl rfl rfl (by decide +kernel) ⟨Nat.le_of_ble_eq_true rfl, Nat.le_of_ble_eq_true rfl⟩) (va_recv hK hP (ci := 4) (q0 := 0) rfl rfl) hK hP hD hS hB hE [0, 1, 2] rfl rfl rfl rfl rfl hl.1 rfl (Nat.le_of_ble_eq_true rfl) dX4_readMask_23 ⟨Nat.le_of_ble_eq_true rfl, Nat.le_of_ble_eq_true rfl⟩ (fun H locs hP hD hS => ?_)
    refine W.eq (g2 := F0 m 26 ls [.int r10]) rfl ?_
    refine lv_if_ne (tgt := 31) hx hb dX4_readMask_26 (by decide) (fun c15 => ?_) (fun c15 => ?_)
    · have hf := if_n c15 hf
      refine lv_aload_n hx hb dX4_readMask_31 rfl (lv_at hl 2 rfl) ?_
      refine lv_iload_n hx hb dX4_readMask_32 rfl (lv_at hl 0 rfl) ?_
      refine va_putN (D := D) (ci := 0) (v := .int o7) (ty := .int) (C := RX0) (T := TX0) (N := 6) hx hb hts w2 tyX0 tyX0_ok nmX0 hown hK hP hD hS 3 rfl rfl 4 (by decide) w3 (fun _ h9 => h9) rfl (by decide +kernel) rfl rfl (Nat.le_of_ble_eq_true rfl) dX4_readMask_33 (fun H locs hP hD hS => ?_)
      have hP : va_P D vwCl [(ta, .inr (4, [.ref tb, .int tln, .int tcl, .int o11, .int o12, .int o13, .ref tc])), (tb, .inl (cC, 200, .inl tlt)), (tc, .inl (cI, 4, .inl tsv)), (fa, .inr (0, [.int fst, .ref fb, .int fwy, .ref fc, .int o7, .int fwt])), (fb, .inl (cI, 24, .inl fvl)), (fc, .inl (cI, 84, .inl fpt))] H := hP
      have hD : va_D A [(ta, .inr (4, [.ref tb, .int tln, .int tcl, .int o11, .int o12, .int o13, .ref tc])), (tb, .inl (cC, 200, .inl tlt)), (tc, .inl (cI, 4, .inl tsv)), (fa, .inr (0, [.int fst, .ref fb, .int fwy, .ref fc, .int o7, .int fwt])), (fb, .inl (cI, 24, .inl fvl)), (fc, .inl (cI, 84, .inl fpt))] := hD
      refine lv_aload_n hx hb dX4_readMask_36 rfl (lv_at hl 2 rfl) ?_
      refine lv_aload_n hx hb dX4_readMask_37 rfl (lv_at hl 1 rfl) ?_
      refine va_get (D := D) (ci := 4) (v := .int o13) (C := RX4) (T := TX4) (N := 7) hx hb hts w0 hown hK hP 0 rfl rfl 5 (by decide) w1 (fun _ h9 => h9) rfl dX4_readMask_38 ?_
      refine va_putN (D := D) (ci := 0) (v := .int o13) (ty := .int) (C := RX0) (T := TX0) (N := 6) hx hb hts w2 tyX0 tyX0_ok nmX0 hown hK hP hD hS 3 rfl rfl 5 (by decide) w4 (fun _ h9 => h9) rfl (by decide +kernel) rfl rfl (Nat.le_of_ble_eq_true rfl) dX4_readMask_41 (fun H locs hP hD hS => ?_)
      have hP : va_P D vwCl [(ta, .inr (4, [.ref tb, .int tln, .int tcl, .int o11, .int o12, .int o13, .ref tc])), (tb, .inl (cC, 200, .inl tlt)), (tc, .inl (cI, 4, .inl tsv)), (fa, .inr (0, [.int fst, .ref fb, .int fwy, .ref fc, .int o7, .int o13])), (fb, .inl (cI, 24, .inl fvl)), (fc, .inl (cI, 84, .inl fpt))] H := hP
      have hD : va_D A [(ta, .inr (4, [.ref tb, .int tln, .int tcl, .int o11, .int o12, .int o13, .ref tc])), (tb, .inl (cC, 200, .inl tlt)), (tc, .inl (cI, 4, .inl tsv)), (fa, .inr (0, [.int fst, .ref fb, .int fwy, .ref fc, .int o7, .int o13])), (fb, .inl (cI, 24, .inl fvl)), (fc, .inl (cI, 84, .inl fpt))] := hD
      refine lv_iconst (v := 1) hx hb dX4_readMask_44 (by decide) ?_
      have h1 := Option.some.inj hf
      subst h1
      rw [hQ]
      exact W.zret (v := 1) (ty := .boolean) hx hb hr rfl (fun t ht hW => qEnd hP hS ht) hS.2.2 dX4_readMask_45
    · have hf := if_p c15 hf
      refine lv_iconst (v := 0) hx hb dX4_readMask_29 (by decide) ?_
      have h1 := Option.some.inj hf
      subst h1
      rw [hQ]
      exact W.zret (v := 0) (ty := .boolean) hx hb hr rfl (fun t ht hW => qEnd hP hS ht) hS.2.2 dX4_readMask_30
  · have hf := if_p c9 hf
    refine lv_iconst (v := 0) hx hb dX4_readMask_13 (by decide) ?_
    have h1 := Option.some.inj hf
    subst h1
    rw [hQ]
    exact W.zret (v := 0) (ty := .boolean) hx hb hr rfl (fun t ht hW => qEnd hP hS ht) hS.2.2 dX4_readMask_14
set_option maxRecDepth 100000 in
set_option maxHeartbeats 4000000 in
theorem c_X4_readBreaking (l : Launch) (D : va_G) (B : Nat) (adK adV : Nat → Nat) (cC cF cI cZ cM cS : ClassId) (ta : Nat) (tb : Nat) (tln : Int32) (tcl : Int32) (tts : Int32) (tte : Int32) (tam : Int32) (tc : Nat) (tlt : Nat → Int32) (tsv : Nat → Int32) (fa : Nat) (fst : Int32) (fb : Nat) (fwy : Int32) (fc : Nat) (fmk : Int32) (fwt : Int32) (fvl : Nat → Int32) (fpt : Nat → Int32) (zz : Int32 × (Nat → Int32) × Int32 × Int32) (hf : f_X4_readBreaking tln tts tte tlt fwy fpt = some zz) : Ct l yX4_readBreaking wsX4_readBreaking { frames := 1, cells := 0, slots := 0, locals := 24 } D B adK adV (tysX cC cF cI cZ cM cS) [.ref ta, .ref fa] [(ta, .inr (4, [.ref tb, .int tln, .int tcl, .int tts, .int tte, .int tam, .ref tc])), (tb, .inl (cC, 200, .inl tlt)), (tc, .inl (cI, 4, .inl tsv)), (fa, .inr (0, [.int fst, .ref fb, .int fwy, .ref fc, .int fmk, .int fwt])), (fb, .inl (cI, 24, .inl fvl)), (fc, .inl (cI, 84, .inl fpt))] [(ta, .inr (4, [.ref tb, .int tln, .int tcl, .int zz.2.2.1, .int zz.2.2.2, .int tam, .ref tc])), (tb, .inl (cC, 200, .inl tlt)), (tc, .inl (cI, 4, .inl tsv)), (fa, .inr (0, [.int fst, .ref fb, .int fwy, .ref fc, .int fmk, .int fwt])), (fb, .inl (cI, 24, .inl fvl)), (fc, .inl (cI, 84, .inl zz.2.1))] (some (.int zz.1)) := by
  refine Ct.ofW (cc := cX4_readBreaking) (maxL := 2) (ret := (some .boolean)) (by decide) rfl (Nat.le_of_ble_eq_true rfl) ?_
  intro p e s m args below meth c hx hb hr hml hts hown hlocks hnm hK hE A Q hQ hB H locs ls hP hD hS hl
  have hl : lv_has ls 2 [(0, .ref ta), (1, .ref fa)] := hl
  have w0 : ∀ w ∈ u_ws RX0 TX0 6, w ∈ wsX4_readBreaking := by decide +kernel
  have w1 : (Cond.fieldLinkNest "MotionStates$Text" 96 "MotionStates$Figure" "ways" "I" "MotionStates").before args s = true := va_Nw.use rfl (hE.1 ("MotionStates$Text", 96, "MotionStates$Figure", "ways", "I", "MotionStates") (by decide +kernel))
  unfold f_X4_readBreaking at hf
  refine lv_aload_n hx hb dX4_readBreaking_0 rfl (lv_at hl 1 rfl) ?_
  refine va_getN (D := D) (ci := 0) (v := .int fwy) (C := RX0) (T := TX0) (N := 6) hx hb hts w0 hown hK hP 3 rfl rfl 2 (by decide) w1 (fun _ h9 => h9) rfl dX4_readBreaking_1 ?_
  refine lv_if_ne (tgt := 9) hx hb dX4_readBreaking_4 (by decide) (fun c1 => ?_) (fun c1 => ?_)
  · have hf := if_n c1 hf
    refine lv_aload_n hx hb dX4_readBreaking_9 rfl (lv_at hl 1 rfl) ?_
    refine lv_aload_n hx hb dX4_readBreaking_10 rfl (lv_at hl 1 rfl) ?_
    refine va_getN (D := D) (ci := 0) (v := .int fwy) (C := RX0) (T := TX0) (N := 6) hx hb hts w0 hown hK hP 3 rfl rfl 2 (by decide) w1 (fun _ h9 => h9) rfl dX4_readBreaking_11 ?_
    refine lv_iconst (v := 1) hx hb dX4_readBreaking_14 (by decide) ?_
    refine lv_isub hx hb dX4_readBreaking_15 ?_
    refine lv_iconst (v := 3) hx hb dX4_readBreaking_16 (by decide) ?_
    refine lv_iconst (v := 1) hx hb dX4_readBreaking_17 (by decide) ?_
    obtain ⟨o2, hc3, hf⟩ := bd_inv hf
    refine xcV (As := [.int (fwy - 1), .int 3, .int 1]) (rest := []) (ws' := [(ta, .inr (4, [.ref tb, .int tln, .int tcl, .int tts, .int tte, .int tam, .ref tc])), (tb, .inl (cC, 200, .inl tlt)), (tc, .inl (cI, 4, .inl tsv)), (fa, .inr (0, [.int fst, .ref fb, .int fwy, .ref fc, .int fmk, .int fwt])), (fb, .inl (cI, 24, .inl fvl)), (fc, .inl (cI, 84, .inl o2))]) ⟨hx, hb, hml, hown, hts⟩ (c_X0_putPart l D B adK adV cC cF cI cZ cM cS fa fst fb fwy fc fmk fwt fvl fpt (fwy - 1) 3 1  o2 hc3) (cwV 3 hts gX4_readBreaking_X0_putPart rfl rfl rfl (by decide +kernel) ⟨Nat.le_of_ble_eq_true rfl, Nat.le_of_ble_eq_true rfl⟩) (va_recv hK hP (ci := 0) (q0 := 3) rfl rfl) hK hP hD hS hB hE [3, 4, 5] rfl rfl rfl rfl rfl hl.1 rfl (Nat.le_of_ble_eq_true rfl) dX4_readBreaking_18 ⟨Nat.le_of_ble_eq_true rfl, Nat.le_of_ble_eq_true rfl⟩ (fun H locs hP hD hS => ?_)
    refine W.eq (g2 := F0 m 21 ls []) rfl ?_
    refine lv_aload_n hx hb dX4_readBreaking_21 rfl (lv_at hl 0 rfl) ?_
    obtain ⟨⟨o4, o5⟩, hc6, hf⟩ := bd_inv hf
    refine xcV (As := []) (rest := []) (ws' := [(ta, .inr (4, [.ref tb, .int tln, .int tcl, .int o4, .int o5, .int tam, .ref tc])), (tb, .inl (cC, 200, .inl tlt)), (tc, .inl (cI, 4, .inl tsv)), (fa, .inr (0, [.int fst, .ref fb, .int fwy, .ref fc, .int fmk, .int fwt])), (fb, .inl (cI, 24, .inl fvl)), (fc, .inl (cI, 84, .inl o2))]) ⟨hx, hb, hml, hown, hts⟩ (c_X4_advance l D B adK adV cC cF cI cZ cM cS ta tb tln tcl tts tte tam tc tlt tsv  (o4, o5) hc6) (cwV 0 hts gX4_readBreaking_X4_advance rfl rfl rfl (by decide +kernel) ⟨Nat.le_of_ble_eq_true rfl, Nat.le_of_ble_eq_true rfl⟩) (va_recv hK hP (ci := 4) (q0 := 0) rfl rfl) hK hP hD hS hB hE [0, 1, 2] rfl rfl rfl rfl rfl hl.1 rfl (Nat.le_of_ble_eq_true rfl) dX4_readBreaking_22 ⟨Nat.le_of_ble_eq_true rfl, Nat.le_of_ble_eq_true rfl⟩ (fun H locs hP hD hS => ?_)
    refine W.eq (g2 := F0 m 25 ls []) rfl ?_
    refine lv_iconst (v := 1) hx hb dX4_readBreaking_25 (by decide) ?_
    have h1 := Option.some.inj hf
    subst h1
    rw [hQ]
    exact W.zret (v := 1) (ty := .boolean) hx hb hr rfl (fun t ht hW => qEnd hP hS ht) hS.2.2 dX4_readBreaking_26
  · have hf := if_p c1 hf
    refine lv_iconst (v := 0) hx hb dX4_readBreaking_7 (by decide) ?_
    have h1 := Option.some.inj hf
    subst h1
    rw [hQ]
    exact W.zret (v := 0) (ty := .boolean) hx hb hr rfl (fun t ht hW => qEnd hP hS ht) hS.2.2 dX4_readBreaking_8
set_option maxRecDepth 100000 in
set_option maxHeartbeats 4000000 in
theorem c_X4_readState (l : Launch) (D : va_G) (B : Nat) (adK adV : Nat → Nat) (cC cF cI cZ cM cS : ClassId) (ta : Nat) (tb : Nat) (tln : Int32) (tcl : Int32) (tts : Int32) (tte : Int32) (tam : Int32) (tc : Nat) (tlt : Nat → Int32) (tsv : Nat → Int32) (fa : Nat) (fst : Int32) (fb : Nat) (fwy : Int32) (fc : Nat) (fmk : Int32) (fwt : Int32) (fvl : Nat → Int32) (fpt : Nat → Int32) (zz : Int32 × (Nat → Int32) × (Nat → Int32) × Int32 × Int32 × Int32 × Int32) (hf : f_X4_readState tln tts tte tam tlt tsv fst fvl = some zz) : Ct l yX4_readState wsX4_readState { frames := 3, cells := 0, slots := 0, locals := 68 } D B adK adV (tysX cC cF cI cZ cM cS) [.ref ta, .ref fa] [(ta, .inr (4, [.ref tb, .int tln, .int tcl, .int tts, .int tte, .int tam, .ref tc])), (tb, .inl (cC, 200, .inl tlt)), (tc, .inl (cI, 4, .inl tsv)), (fa, .inr (0, [.int fst, .ref fb, .int fwy, .ref fc, .int fmk, .int fwt])), (fb, .inl (cI, 24, .inl fvl)), (fc, .inl (cI, 84, .inl fpt))] [(ta, .inr (4, [.ref tb, .int tln, .int tcl, .int zz.2.2.2.1, .int zz.2.2.2.2.1, .int zz.2.2.2.2.2.1, .ref tc])), (tb, .inl (cC, 200, .inl tlt)), (tc, .inl (cI, 4, .inl zz.2.1)), (fa, .inr (0, [.int zz.2.2.2.2.2.2, .ref fb, .int fwy, .ref fc, .int fmk, .int fwt])), (fb, .inl (cI, 24, .inl zz.2.2.1)), (fc, .inl (cI, 84, .inl fpt))] (some (.int zz.1)) := by
  refine Ct.ofW (cc := cX4_readState) (maxL := 3) (ret := (some .boolean)) (by decide) rfl (Nat.le_of_ble_eq_true rfl) ?_
  intro p e s m args below meth c hx hb hr hml hts hown hlocks hnm hK hE A Q hQ hB H locs ls hP hD hS hl
  have hl : lv_has ls 3 [(0, .ref ta), (1, .ref fa)] := hl
  have w0 : ∀ w ∈ u_ws RX0 TX0 6, w ∈ wsX4_readState := by decide +kernel
  have w1 : (Cond.fieldLinkNest "MotionStates$Text" 78 "MotionStates$Figure" "states" "I" "MotionStates").before args s = true := va_Nw.use rfl (hE.1 ("MotionStates$Text", 78, "MotionStates$Figure", "states", "I", "MotionStates") (by decide +kernel))
  have w2 : ∀ w ∈ u_ws RX4 TX4 7, w ∈ wsX4_readState := by decide +kernel
  have w3 := hts (.fieldLink RX4 15 "MotionStates$Text" "stateValues" "[I") (by decide +kernel)
  have w4 : (Cond.fieldLinkNest "MotionStates$Text" 87 "MotionStates$Figure" "values" "[I" "MotionStates").before args s = true := va_Nw.use rfl (hE.1 ("MotionStates$Text", 87, "MotionStates$Figure", "values", "[I", "MotionStates") (by decide +kernel))
  have w5 := hts (.methodLink RX4 90 arraycopyName) (by decide +kernel)
  have w6 := hts (.native arraycopyName) (by decide +kernel)
  have w7 := hts (.static arraycopyName) (by decide +kernel)
  have w8 := hts (.initialized "java/lang/System") (by decide +kernel)
  have w9 := hts (.fieldLink RX4 84 "MotionStates$Text" "amount" "I") (by decide +kernel)
  have L17 : ∀ (n : Nat) (x2_17 : Int32) (tts_17 : Int32) (tte_17 : Int32) (tam_17 : Int32) (tsv_17 : Nat → Int32), f_X4_readState_L17 fst fvl tln tlt n x2_17 tts_17 tte_17 tam_17 tsv_17 = some zz → ∀ (H : Heap) (locs : List Loc) (ls : Array Slot), va_P D vwCl [(ta, .inr (4, [.ref tb, .int tln, .int tcl, .int tts_17, .int tte_17, .int tam_17, .ref tc])), (tb, .inl (cC, 200, .inl tlt)), (tc, .inl (cI, 4, .inl tsv_17)), (fa, .inr (0, [.int fst, .ref fb, .int fwy, .ref fc, .int fmk, .int fwt])), (fb, .inl (cI, 24, .inl fvl)), (fc, .inl (cI, 84, .inl fpt))] H → va_D A [(ta, .inr (4, [.ref tb, .int tln, .int tcl, .int tts_17, .int tte_17, .int tam_17, .ref tc])), (tb, .inl (cC, 200, .inl tlt)), (tc, .inl (cI, 4, .inl tsv_17)), (fa, .inr (0, [.int fst, .ref fb, .int fwy, .ref fc, .int fmk, .int fwt])), (fb, .inl (cI, 24, .inl fvl)), (fc, .inl (cI, 84, .inl fpt))] → va_S A s.heap H locs → lv_has ls 3 [(2, .int x2_17), (0, .ref ta), (1, .ref fa)] → W p l e { frames := 3, cells := 0, slots := 0, locals := 68 } s m args below meth c H locs 0 0 Q (F0 m 17 ls []) := by
    intro n
    induction n with
    | zero => intro x2_17 tts_17 tte_17 tam_17 tsv_17 hf; exact absurd hf (by simp [f_X4_readState_L17])
    | succ n ih =>
      intro x2_17 tts_17 tte_17 tam_17 tsv_17 hf H locs ls hP hD hS hl
      rw [f_X4_readState_L17] at hf
      refine lv_iload_n hx hb dX4_readState_17 rfl (lv_at hl 0 rfl) ?_
      refine lv_iconst (v := 4) hx hb dX4_readState_18 (by decide) ?_
      refine lv_icmp_ge (tgt := 47) hx hb dX4_readState_19 (by decide) (fun c5 => ?_) (fun c5 => ?_)
      · have hf := if_p c5 hf
        refine lv_aload_n hx hb dX4_readState_47 rfl (lv_at hl 1 rfl) ?_
        refine va_get (D := D) (ci := 4) (v := .ref tc) (C := RX4) (T := TX4) (N := 7) hx hb hts w2 hown hK hP 0 rfl rfl 6 (by decide) w3 (fun _ h9 => h9) rfl dX4_readState_48 ?_
        refine lv_iconst (v := 0) hx hb dX4_readState_51 (by decide) ?_
        refine lv_aload_n hx hb dX4_readState_52 rfl (lv_at hl 2 rfl) ?_
        refine va_getN (D := D) (ci := 0) (v := .ref fb) (C := RX0) (T := TX0) (N := 6) hx hb hts w0 hown hK hP 3 rfl rfl 1 (by decide) w4 (fun _ h9 => h9) rfl dX4_readState_53 ?_
        refine lv_aload_n hx hb dX4_readState_56 rfl (lv_at hl 2 rfl) ?_
        refine va_getN (D := D) (ci := 0) (v := .int fst) (C := RX0) (T := TX0) (N := 6) hx hb hts w0 hown hK hP 3 rfl rfl 0 (by decide) w1 (fun _ h9 => h9) rfl dX4_readState_57 ?_
        refine lv_iconst (v := 4) hx hb dX4_readState_60 (by decide) ?_
        refine lv_imul hx hb dX4_readState_61 ?_
        refine lv_iconst (v := 4) hx hb dX4_readState_62 (by decide) ?_
        obtain ⟨g6, hf⟩ := gd_inv hf
        refine va_copyi hx hb (hml.trans hl.1.symm) hown w5 w6 w7 w8 hK hP hD hS 2 4 2 2 rfl rfl rfl rfl rfl g6.1 g6.2.1 g6.2.2.1 g6.2.2.2.1 g6.2.2.2.2 (fun _ _ => rfl) (Nat.le_of_ble_eq_true rfl) (Nat.le_of_ble_eq_true rfl) dX4_readState_63 (fun H locs hP hD hS => ?_)
        have hP : va_P D vwCl [(ta, .inr (4, [.ref tb, .int tln, .int tcl, .int tts_17, .int tte_17, .int tam_17, .ref tc])), (tb, .inl (cC, 200, .inl tlt)), (tc, .inl (cI, 4, .inl tsv_17)), (fa, .inr (0, [.int fst, .ref fb, .int fwy, .ref fc, .int fmk, .int fwt])), (fb, .inl (cI, 24, .inl (va_cpy tsv_17 fvl 0 ((fst * 4).toNatClampNeg) 4))), (fc, .inl (cI, 84, .inl fpt))] H := hP
        have hD : va_D A [(ta, .inr (4, [.ref tb, .int tln, .int tcl, .int tts_17, .int tte_17, .int tam_17, .ref tc])), (tb, .inl (cC, 200, .inl tlt)), (tc, .inl (cI, 4, .inl tsv_17)), (fa, .inr (0, [.int fst, .ref fb, .int fwy, .ref fc, .int fmk, .int fwt])), (fb, .inl (cI, 24, .inl (va_cpy tsv_17 fvl 0 ((fst * 4).toNatClampNeg) 4))), (fc, .inl (cI, 84, .inl fpt))] := hD
        refine lv_aload_n hx hb dX4_readState_66 rfl (lv_at hl 2 rfl) ?_
        refine lv_dup hx hb dX4_readState_67 rfl ?_
        refine va_getN (D := D) (ci := 0) (v := .int fst) (C := RX0) (T := TX0) (N := 6) hx hb hts w0 hown hK hP 3 rfl rfl 0 (by decide) w1 (fun _ h9 => h9) rfl dX4_readState_68 ?_
        refine lv_iconst (v := 1) hx hb dX4_readState_71 (by decide) ?_
        refine lv_iadd hx hb dX4_readState_72 ?_
        refine va_putN (D := D) (ci := 0) (v := .int (fst + 1)) (ty := .int) (C := RX0) (T := TX0) (N := 6) hx hb hts w0 tyX0 tyX0_ok nmX0 hown hK hP hD hS 3 rfl rfl 0 (by decide) w1 (fun _ h9 => h9) rfl (by decide +kernel) rfl rfl (Nat.le_of_ble_eq_true rfl) dX4_readState_73 (fun H locs hP hD hS => ?_)
        have hP : va_P D vwCl [(ta, .inr (4, [.ref tb, .int tln, .int tcl, .int tts_17, .int tte_17, .int tam_17, .ref tc])), (tb, .inl (cC, 200, .inl tlt)), (tc, .inl (cI, 4, .inl tsv_17)), (fa, .inr (0, [.int (fst + 1), .ref fb, .int fwy, .ref fc, .int fmk, .int fwt])), (fb, .inl (cI, 24, .inl (va_cpy tsv_17 fvl 0 ((fst * 4).toNatClampNeg) 4))), (fc, .inl (cI, 84, .inl fpt))] H := hP
        have hD : va_D A [(ta, .inr (4, [.ref tb, .int tln, .int tcl, .int tts_17, .int tte_17, .int tam_17, .ref tc])), (tb, .inl (cC, 200, .inl tlt)), (tc, .inl (cI, 4, .inl tsv_17)), (fa, .inr (0, [.int (fst + 1), .ref fb, .int fwy, .ref fc, .int fmk, .int fwt])), (fb, .inl (cI, 24, .inl (va_cpy tsv_17 fvl 0 ((fst * 4).toNatClampNeg) 4))), (fc, .inl (cI, 84, .inl fpt))] := hD
        refine lv_iconst (v := 1) hx hb dX4_readState_76 (by decide) ?_
        have h1 := Option.some.inj hf
        subst h1
        rw [hQ]
        exact W.zret (v := 1) (ty := .boolean) hx hb hr rfl (fun t ht hW => qEnd hP hS ht) hS.2.2 dX4_readState_77
      · have hf := if_n c5 hf
        refine lv_aload_n hx hb dX4_readState_22 rfl (lv_at hl 1 rfl) ?_
        obtain ⟨⟨r7, o8, o9, o10⟩, hc11, hf⟩ := bd_inv hf
        refine xcV (As := []) (rest := []) (ws' := [(ta, .inr (4, [.ref tb, .int tln, .int tcl, .int o8, .int o9, .int o10, .ref tc])), (tb, .inl (cC, 200, .inl tlt)), (tc, .inl (cI, 4, .inl tsv_17)), (fa, .inr (0, [.int fst, .ref fb, .int fwy, .ref fc, .int fmk, .int fwt])), (fb, .inl (cI, 24, .inl fvl)), (fc, .inl (cI, 84, .inl fpt))]) ⟨hx, hb, hml, hown, hts⟩ (c_X4_readSigned l D B adK adV cC cF cI cZ cM cS ta tb tln tcl tts_17 tte_17 tam_17 tc tlt tsv_17  (r7, o8, o9, o10) hc11) (cwV 0 hts gX4_readState_X4_readSigned rfl rfl rfl (by decide +kernel) ⟨Nat.le_of_ble_eq_true rfl, Nat.le_of_ble_eq_true rfl⟩) (va_recv hK hP (ci := 4) (q0 := 0) rfl rfl) hK hP hD hS hB hE [0, 1, 2] rfl rfl rfl rfl rfl hl.1 rfl (Nat.le_of_ble_eq_true rfl) dX4_readState_23 ⟨Nat.le_of_ble_eq_true rfl, Nat.le_of_ble_eq_true rfl⟩ (fun H locs hP hD hS => ?_)
        refine W.eq (g2 := F0 m 26 ls [.int r7]) rfl ?_
        refine lv_if_ne (tgt := 31) hx hb dX4_readState_26 (by decide) (fun c12 => ?_) (fun c12 => ?_)
        · have hf := if_n c12 hf
          refine lv_aload_n hx hb dX4_readState_31 rfl (lv_at hl 1 rfl) ?_
          refine va_get (D := D) (ci := 4) (v := .ref tc) (C := RX4) (T := TX4) (N := 7) hx hb hts w2 hown hK hP 0 rfl rfl 6 (by decide) w3 (fun _ h9 => h9) rfl dX4_readState_32 ?_
          refine lv_iload_n hx hb dX4_readState_35 rfl (lv_at hl 0 rfl) ?_
          refine lv_aload_n hx hb dX4_readState_36 rfl (lv_at hl 1 rfl) ?_
          refine va_get (D := D) (ci := 4) (v := .int o10) (C := RX4) (T := TX4) (N := 7) hx hb hts w2 hown hK hP 0 rfl rfl 5 (by decide) w9 (fun _ h9 => h9) rfl dX4_readState_37 ?_
          obtain ⟨g13, hf⟩ := gd_inv hf
          refine va_iast hx hb hK hP hD hS 2 2 rfl rfl g13 dX4_readState_40 (fun H locs hP hD hS => ?_)
          have hP : va_P D vwCl [(ta, .inr (4, [.ref tb, .int tln, .int tcl, .int o8, .int o9, .int o10, .ref tc])), (tb, .inl (cC, 200, .inl tlt)), (tc, .inl (cI, 4, .inl (upd tsv_17 x2_17.toNatClampNeg o10))), (fa, .inr (0, [.int fst, .ref fb, .int fwy, .ref fc, .int fmk, .int fwt])), (fb, .inl (cI, 24, .inl fvl)), (fc, .inl (cI, 84, .inl fpt))] H := hP
          have hD : va_D A [(ta, .inr (4, [.ref tb, .int tln, .int tcl, .int o8, .int o9, .int o10, .ref tc])), (tb, .inl (cC, 200, .inl tlt)), (tc, .inl (cI, 4, .inl (upd tsv_17 x2_17.toNatClampNeg o10))), (fa, .inr (0, [.int fst, .ref fb, .int fwy, .ref fc, .int fmk, .int fwt])), (fb, .inl (cI, 24, .inl fvl)), (fc, .inl (cI, 84, .inl fpt))] := hD
          refine lv_iinc (v := x2_17 + 1) (lv' := [(2, .int (x2_17 + 1)), (0, .ref ta), (1, .ref fa)]) hx hb dX4_readState_41 hl (k := 0) rfl rfl (by decide) rfl (fun ls hl => ?_)
          refine lv_goto (tgt := 17) hx hb dX4_readState_44 (by decide) ?_
          exact ih (x2_17 + 1) o8 o9 o10 (upd tsv_17 x2_17.toNatClampNeg o10) hf H locs ls hP hD hS (lv_sub hl [0, 1, 2] rfl)
        · have hf := if_p c12 hf
          refine lv_iconst (v := 0) hx hb dX4_readState_29 (by decide) ?_
          have h1 := Option.some.inj hf
          subst h1
          rw [hQ]
          exact W.zret (v := 0) (ty := .boolean) hx hb hr rfl (fun t ht hW => qEnd hP hS ht) hS.2.2 dX4_readState_30
  unfold f_X4_readState at hf
  refine lv_aload_n hx hb dX4_readState_0 rfl (lv_at hl 1 rfl) ?_
  refine va_getN (D := D) (ci := 0) (v := .int fst) (C := RX0) (T := TX0) (N := 6) hx hb hts w0 hown hK hP 3 rfl rfl 0 (by decide) w1 (fun _ h9 => h9) rfl dX4_readState_1 ?_
  refine lv_bipush (v := 6) hx hb dX4_readState_4 (by decide) ?_
  refine lv_icmp_lt (tgt := 11) hx hb dX4_readState_6 (by decide) (fun c1 => ?_) (fun c1 => ?_)
  · have hf := if_p c1 hf
    refine lv_aload_n hx hb dX4_readState_11 rfl (lv_at hl 0 rfl) ?_
    obtain ⟨⟨o2, o3⟩, hc4, hf⟩ := bd_inv hf
    refine xcV (As := []) (rest := []) (ws' := [(ta, .inr (4, [.ref tb, .int tln, .int tcl, .int o2, .int o3, .int tam, .ref tc])), (tb, .inl (cC, 200, .inl tlt)), (tc, .inl (cI, 4, .inl tsv)), (fa, .inr (0, [.int fst, .ref fb, .int fwy, .ref fc, .int fmk, .int fwt])), (fb, .inl (cI, 24, .inl fvl)), (fc, .inl (cI, 84, .inl fpt))]) ⟨hx, hb, hml, hown, hts⟩ (c_X4_advance l D B adK adV cC cF cI cZ cM cS ta tb tln tcl tts tte tam tc tlt tsv  (o2, o3) hc4) (cwV 0 hts gX4_readState_X4_advance rfl rfl rfl (by decide +kernel) ⟨Nat.le_of_ble_eq_true rfl, Nat.le_of_ble_eq_true rfl⟩) (va_recv hK hP (ci := 4) (q0 := 0) rfl rfl) hK hP hD hS hB hE [0, 1, 2] rfl rfl rfl rfl rfl hl.1 rfl (Nat.le_of_ble_eq_true rfl) dX4_readState_12 ⟨Nat.le_of_ble_eq_true rfl, Nat.le_of_ble_eq_true rfl⟩ (fun H locs hP hD hS => ?_)
    refine W.eq (g2 := F0 m 15 ls []) rfl ?_
    refine lv_iconst (v := 0) hx hb dX4_readState_15 (by decide) ?_
    refine lv_istore_n (lv' := [(2, .int 0), (0, .ref ta), (1, .ref fa)]) hx hb dX4_readState_16 rfl hl (by decide) rfl (fun ls hl => ?_)
    exact L17 1000 0 o2 o3 tam tsv hf H locs ls hP hD hS (lv_sub hl [0, 1, 2] rfl)
  · have hf := if_n c1 hf
    refine lv_iconst (v := 0) hx hb dX4_readState_9 (by decide) ?_
    have h1 := Option.some.inj hf
    subst h1
    rw [hQ]
    exact W.zret (v := 0) (ty := .boolean) hx hb hr rfl (fun t ht hW => qEnd hP hS ht) hS.2.2 dX4_readState_10
set_option maxRecDepth 100000 in
set_option maxHeartbeats 4000000 in
theorem c_X4_readWay (l : Launch) (D : va_G) (B : Nat) (adK adV : Nat → Nat) (cC cF cI cZ cM cS : ClassId) (ta : Nat) (tb : Nat) (tln : Int32) (tcl : Int32) (tts : Int32) (tte : Int32) (tam : Int32) (tc : Nat) (tlt : Nat → Int32) (tsv : Nat → Int32) (fa : Nat) (fst : Int32) (fb : Nat) (fwy : Int32) (fc : Nat) (fmk : Int32) (fwt : Int32) (fvl : Nat → Int32) (fpt : Nat → Int32) (zz : Int32 × (Nat → Int32) × Int32 × Int32 × Int32) (hf : f_X4_readWay tln tts tte tam tlt fst fwy fpt = some zz) : Ct l yX4_readWay wsX4_readWay { frames := 3, cells := 0, slots := 0, locals := 68 } D B adK adV (tysX cC cF cI cZ cM cS) [.ref ta, .ref fa] [(ta, .inr (4, [.ref tb, .int tln, .int tcl, .int tts, .int tte, .int tam, .ref tc])), (tb, .inl (cC, 200, .inl tlt)), (tc, .inl (cI, 4, .inl tsv)), (fa, .inr (0, [.int fst, .ref fb, .int fwy, .ref fc, .int fmk, .int fwt])), (fb, .inl (cI, 24, .inl fvl)), (fc, .inl (cI, 84, .inl fpt))] [(ta, .inr (4, [.ref tb, .int tln, .int tcl, .int zz.2.2.1, .int zz.2.2.2.1, .int zz.2.2.2.2, .ref tc])), (tb, .inl (cC, 200, .inl tlt)), (tc, .inl (cI, 4, .inl tsv)), (fa, .inr (0, [.int fst, .ref fb, .int fwy, .ref fc, .int fmk, .int fwt])), (fb, .inl (cI, 24, .inl fvl)), (fc, .inl (cI, 84, .inl zz.2.1))] (some (.int zz.1)) := by
  refine Ct.ofW (cc := cX4_readWay) (maxL := 3) (ret := (some .boolean)) (by decide) rfl (Nat.le_of_ble_eq_true rfl) ?_
  intro p e s m args below meth c hx hb hr hml hts hown hlocks hnm hK hE A Q hQ hB H locs ls hP hD hS hl
  have hl : lv_has ls 3 [(0, .ref ta), (1, .ref fa)] := hl
  have w0 : ∀ w ∈ u_ws RX0 TX0 6, w ∈ wsX4_readWay := by decide +kernel
  have w1 : (Cond.fieldLinkNest "MotionStates$Text" 96 "MotionStates$Figure" "ways" "I" "MotionStates").before args s = true := va_Nw.use rfl (hE.1 ("MotionStates$Text", 96, "MotionStates$Figure", "ways", "I", "MotionStates") (by decide +kernel))
  have w2 : (Cond.fieldLinkNest "MotionStates$Text" 78 "MotionStates$Figure" "states" "I" "MotionStates").before args s = true := va_Nw.use rfl (hE.1 ("MotionStates$Text", 78, "MotionStates$Figure", "states", "I", "MotionStates") (by decide +kernel))
  have w3 : ∀ w ∈ u_ws RX4 TX4 7, w ∈ wsX4_readWay := by decide +kernel
  have w4 := hts (.fieldLink RX4 84 "MotionStates$Text" "amount" "I") (by decide +kernel)
  unfold f_X4_readWay at hf
  refine lv_aload_n hx hb dX4_readWay_0 rfl (lv_at hl 1 rfl) ?_
  refine va_getN (D := D) (ci := 0) (v := .int fwy) (C := RX0) (T := TX0) (N := 6) hx hb hts w0 hown hK hP 3 rfl rfl 2 (by decide) w1 (fun _ h9 => h9) rfl dX4_readWay_1 ?_
  refine lv_bipush (v := 12) hx hb dX4_readWay_4 (by decide) ?_
  refine lv_icmp_lt (tgt := 11) hx hb dX4_readWay_6 (by decide) (fun c1 => ?_) (fun c1 => ?_)
  · have hf := if_p c1 hf
    refine lv_aload_n hx hb dX4_readWay_11 rfl (lv_at hl 0 rfl) ?_
    obtain ⟨⟨o2, o3⟩, hc4, hf⟩ := bd_inv hf
    refine xcV (As := []) (rest := []) (ws' := [(ta, .inr (4, [.ref tb, .int tln, .int tcl, .int o2, .int o3, .int tam, .ref tc])), (tb, .inl (cC, 200, .inl tlt)), (tc, .inl (cI, 4, .inl tsv)), (fa, .inr (0, [.int fst, .ref fb, .int fwy, .ref fc, .int fmk, .int fwt])), (fb, .inl (cI, 24, .inl fvl)), (fc, .inl (cI, 84, .inl fpt))]) ⟨hx, hb, hml, hown, hts⟩ (c_X4_advance l D B adK adV cC cF cI cZ cM cS ta tb tln tcl tts tte tam tc tlt tsv  (o2, o3) hc4) (cwV 0 hts gX4_readWay_X4_advance rfl rfl rfl (by decide +kernel) ⟨Nat.le_of_ble_eq_true rfl, Nat.le_of_ble_eq_true rfl⟩) (va_recv hK hP (ci := 4) (q0 := 0) rfl rfl) hK hP hD hS hB hE [0, 1, 2] rfl rfl rfl rfl rfl hl.1 rfl (Nat.le_of_ble_eq_true rfl) dX4_readWay_12 ⟨Nat.le_of_ble_eq_true rfl, Nat.le_of_ble_eq_true rfl⟩ (fun H locs hP hD hS => ?_)
    refine W.eq (g2 := F0 m 15 ls []) rfl ?_
    refine lv_aload_n hx hb dX4_readWay_15 rfl (lv_at hl 1 rfl) ?_
    refine va_getN (D := D) (ci := 0) (v := .int fwy) (C := RX0) (T := TX0) (N := 6) hx hb hts w0 hown hK hP 3 rfl rfl 2 (by decide) w1 (fun _ h9 => h9) rfl dX4_readWay_16 ?_
    refine lv_istore_n (lv' := [(2, .int fwy), (0, .ref ta), (1, .ref fa)]) hx hb dX4_readWay_19 rfl hl (by decide) rfl (fun ls hl => ?_)
    refine lv_aload_n hx hb dX4_readWay_20 rfl (lv_at hl 1 rfl) ?_
    refine lv_aload_n hx hb dX4_readWay_21 rfl (lv_at hl 1 rfl) ?_
    obtain ⟨r5, hc6, hf⟩ := bd_inv hf
    refine xcV (As := []) (rest := [.ref ta]) (ws' := [(ta, .inr (4, [.ref tb, .int tln, .int tcl, .int o2, .int o3, .int tam, .ref tc])), (tb, .inl (cC, 200, .inl tlt)), (tc, .inl (cI, 4, .inl tsv)), (fa, .inr (0, [.int fst, .ref fb, .int fwy, .ref fc, .int fmk, .int fwt])), (fb, .inl (cI, 24, .inl fvl)), (fc, .inl (cI, 84, .inl fpt))]) ⟨hx, hb, hml, hown, hts⟩ (c_X4_numberHere l D B adK adV cC cF cI cZ cM cS ta tb tln tcl o2 o3 tam tc tlt tsv  r5 hc6) (cwV 0 hts gX4_readWay_X4_numberHere rfl rfl rfl (by decide +kernel) ⟨Nat.le_of_ble_eq_true rfl, Nat.le_of_ble_eq_true rfl⟩) (va_recv hK hP (ci := 4) (q0 := 0) rfl rfl) hK hP hD hS hB hE [0, 1, 2] rfl rfl rfl rfl rfl hl.1 rfl (Nat.le_of_ble_eq_true rfl) dX4_readWay_22 ⟨Nat.le_of_ble_eq_true rfl, Nat.le_of_ble_eq_true rfl⟩ (fun H locs hP hD hS => ?_)
    refine W.eq (g2 := F0 m 25 ls [.int r5, .ref ta]) rfl ?_
    refine lv_bipush (v := 9) hx hb dX4_readWay_25 (by decide) ?_
    refine lv_icmp_ne (tgt := 35) hx hb dX4_readWay_27 (by decide) (fun c7 => ?_) (fun c7 => ?_)
    · have hf := if_n c7 hf
      refine lv_aload_n hx hb dX4_readWay_35 rfl (lv_at hl 2 rfl) ?_
      refine va_getN (D := D) (ci := 0) (v := .int fst) (C := RX0) (T := TX0) (N := 6) hx hb hts w0 hown hK hP 3 rfl rfl 0 (by decide) w2 (fun _ h9 => h9) rfl dX4_readWay_36 ?_
      refine lv_iconst (v := 1) hx hb dX4_readWay_39 (by decide) ?_
      refine lv_isub hx hb dX4_readWay_40 ?_
      obtain ⟨⟨r8, o9, o10, o11⟩, hc12, hf⟩ := bd_inv hf
      refine xcV (As := [.int (fst - 1)]) (rest := []) (ws' := [(ta, .inr (4, [.ref tb, .int tln, .int tcl, .int o9, .int o10, .int o11, .ref tc])), (tb, .inl (cC, 200, .inl tlt)), (tc, .inl (cI, 4, .inl tsv)), (fa, .inr (0, [.int fst, .ref fb, .int fwy, .ref fc, .int fmk, .int fwt])), (fb, .inl (cI, 24, .inl fvl)), (fc, .inl (cI, 84, .inl fpt))]) ⟨hx, hb, hml, hown, hts⟩ (c_X4_readUpTo l D B adK adV cC cF cI cZ cM cS ta tb tln tcl o2 o3 tam tc tlt tsv (fst - 1)  (r8, o9, o10, o11) hc12) (cwV 1 hts gX4_readWay_X4_readUpTo rfl rfl rfl (by decide +kernel) ⟨Nat.le_of_ble_eq_true rfl, Nat.le_of_ble_eq_true rfl⟩) (va_recv hK hP (ci := 4) (q0 := 0) rfl rfl) hK hP hD hS hB hE [0, 1, 2] rfl rfl rfl rfl rfl hl.1 rfl (Nat.le_of_ble_eq_true rfl) dX4_readWay_41 ⟨Nat.le_of_ble_eq_true rfl, Nat.le_of_ble_eq_true rfl⟩ (fun H locs hP hD hS => ?_)
      refine W.eq (g2 := F0 m 44 ls [.int r8]) rfl ?_
      refine lv_if_ne (tgt := 49) hx hb dX4_readWay_44 (by decide) (fun c13 => ?_) (fun c13 => ?_)
      · have hf := if_n c13 hf
        refine lv_aload_n hx hb dX4_readWay_49 rfl (lv_at hl 2 rfl) ?_
        refine lv_iload_n hx hb dX4_readWay_50 rfl (lv_at hl 0 rfl) ?_
        refine lv_iconst (v := 0) hx hb dX4_readWay_51 (by decide) ?_
        refine lv_aload_n hx hb dX4_readWay_52 rfl (lv_at hl 1 rfl) ?_
        refine va_get (D := D) (ci := 4) (v := .int o11) (C := RX4) (T := TX4) (N := 7) hx hb hts w3 hown hK hP 0 rfl rfl 5 (by decide) w4 (fun _ h9 => h9) rfl dX4_readWay_53 ?_
        obtain ⟨o14, hc15, hf⟩ := bd_inv hf
        refine xcV (As := [.int fwy, .int 0, .int o11]) (rest := []) (ws' := [(ta, .inr (4, [.ref tb, .int tln, .int tcl, .int o9, .int o10, .int o11, .ref tc])), (tb, .inl (cC, 200, .inl tlt)), (tc, .inl (cI, 4, .inl tsv)), (fa, .inr (0, [.int fst, .ref fb, .int fwy, .ref fc, .int fmk, .int fwt])), (fb, .inl (cI, 24, .inl fvl)), (fc, .inl (cI, 84, .inl o14))]) ⟨hx, hb, hml, hown, hts⟩ (c_X0_putPart l D B adK adV cC cF cI cZ cM cS fa fst fb fwy fc fmk fwt fvl fpt fwy 0 o11  o14 hc15) (cwV 3 hts gX4_readWay_X0_putPart rfl rfl rfl (by decide +kernel) ⟨Nat.le_of_ble_eq_true rfl, Nat.le_of_ble_eq_true rfl⟩) (va_recv hK hP (ci := 0) (q0 := 3) rfl rfl) hK hP hD hS hB hE [3, 4, 5] rfl rfl rfl rfl rfl hl.1 rfl (Nat.le_of_ble_eq_true rfl) dX4_readWay_56 ⟨Nat.le_of_ble_eq_true rfl, Nat.le_of_ble_eq_true rfl⟩ (fun H locs hP hD hS => ?_)
        refine W.eq (g2 := F0 m 59 ls []) rfl ?_
        refine lv_aload_n hx hb dX4_readWay_59 rfl (lv_at hl 1 rfl) ?_
        refine lv_aload_n hx hb dX4_readWay_60 rfl (lv_at hl 2 rfl) ?_
        refine va_getN (D := D) (ci := 0) (v := .int fst) (C := RX0) (T := TX0) (N := 6) hx hb hts w0 hown hK hP 3 rfl rfl 0 (by decide) w2 (fun _ h9 => h9) rfl dX4_readWay_61 ?_
        refine lv_iconst (v := 1) hx hb dX4_readWay_64 (by decide) ?_
        refine lv_isub hx hb dX4_readWay_65 ?_
        obtain ⟨⟨r16, o17, o18, o19⟩, hc20, hf⟩ := bd_inv hf
        refine xcV (As := [.int (fst - 1)]) (rest := []) (ws' := [(ta, .inr (4, [.ref tb, .int tln, .int tcl, .int o17, .int o18, .int o19, .ref tc])), (tb, .inl (cC, 200, .inl tlt)), (tc, .inl (cI, 4, .inl tsv)), (fa, .inr (0, [.int fst, .ref fb, .int fwy, .ref fc, .int fmk, .int fwt])), (fb, .inl (cI, 24, .inl fvl)), (fc, .inl (cI, 84, .inl o14))]) ⟨hx, hb, hml, hown, hts⟩ (c_X4_readUpTo l D B adK adV cC cF cI cZ cM cS ta tb tln tcl o9 o10 o11 tc tlt tsv (fst - 1)  (r16, o17, o18, o19) hc20) (cwV 1 hts gX4_readWay_X4_readUpTo rfl rfl rfl (by decide +kernel) ⟨Nat.le_of_ble_eq_true rfl, Nat.le_of_ble_eq_true rfl⟩) (va_recv hK hP (ci := 4) (q0 := 0) rfl rfl) hK hP hD hS hB hE [0, 1, 2] rfl rfl rfl rfl rfl hl.1 rfl (Nat.le_of_ble_eq_true rfl) dX4_readWay_66 ⟨Nat.le_of_ble_eq_true rfl, Nat.le_of_ble_eq_true rfl⟩ (fun H locs hP hD hS => ?_)
        refine W.eq (g2 := F0 m 69 ls [.int r16]) rfl ?_
        refine lv_if_ne (tgt := 74) hx hb dX4_readWay_69 (by decide) (fun c21 => ?_) (fun c21 => ?_)
        · have hf := if_n c21 hf
          refine lv_aload_n hx hb dX4_readWay_74 rfl (lv_at hl 2 rfl) ?_
          refine lv_iload_n hx hb dX4_readWay_75 rfl (lv_at hl 0 rfl) ?_
          refine lv_iconst (v := 1) hx hb dX4_readWay_76 (by decide) ?_
          refine lv_aload_n hx hb dX4_readWay_77 rfl (lv_at hl 1 rfl) ?_
          refine va_get (D := D) (ci := 4) (v := .int o19) (C := RX4) (T := TX4) (N := 7) hx hb hts w3 hown hK hP 0 rfl rfl 5 (by decide) w4 (fun _ h9 => h9) rfl dX4_readWay_78 ?_
          obtain ⟨o22, hc23, hf⟩ := bd_inv hf
          refine xcV (As := [.int fwy, .int 1, .int o19]) (rest := []) (ws' := [(ta, .inr (4, [.ref tb, .int tln, .int tcl, .int o17, .int o18, .int o19, .ref tc])), (tb, .inl (cC, 200, .inl tlt)), (tc, .inl (cI, 4, .inl tsv)), (fa, .inr (0, [.int fst, .ref fb, .int fwy, .ref fc, .int fmk, .int fwt])), (fb, .inl (cI, 24, .inl fvl)), (fc, .inl (cI, 84, .inl o22))]) ⟨hx, hb, hml, hown, hts⟩ (c_X0_putPart l D B adK adV cC cF cI cZ cM cS fa fst fb fwy fc fmk fwt fvl o14 fwy 1 o19  o22 hc23) (cwV 3 hts gX4_readWay_X0_putPart rfl rfl rfl (by decide +kernel) ⟨Nat.le_of_ble_eq_true rfl, Nat.le_of_ble_eq_true rfl⟩) (va_recv hK hP (ci := 0) (q0 := 3) rfl rfl) hK hP hD hS hB hE [3, 4, 5] rfl rfl rfl rfl rfl hl.1 rfl (Nat.le_of_ble_eq_true rfl) dX4_readWay_81 ⟨Nat.le_of_ble_eq_true rfl, Nat.le_of_ble_eq_true rfl⟩ (fun H locs hP hD hS => ?_)
          refine W.eq (g2 := F0 m 84 ls []) rfl ?_
          refine lv_aload_n hx hb dX4_readWay_84 rfl (lv_at hl 1 rfl) ?_
          obtain ⟨⟨r24, o25, o26, o27⟩, hc28, hf⟩ := bd_inv hf
          refine xcV (As := []) (rest := []) (ws' := [(ta, .inr (4, [.ref tb, .int tln, .int tcl, .int o25, .int o26, .int o27, .ref tc])), (tb, .inl (cC, 200, .inl tlt)), (tc, .inl (cI, 4, .inl tsv)), (fa, .inr (0, [.int fst, .ref fb, .int fwy, .ref fc, .int fmk, .int fwt])), (fb, .inl (cI, 24, .inl fvl)), (fc, .inl (cI, 84, .inl o22))]) ⟨hx, hb, hml, hown, hts⟩ (c_X4_readFrames l D B adK adV cC cF cI cZ cM cS ta tb tln tcl o17 o18 o19 tc tlt tsv  (r24, o25, o26, o27) hc28) (cwV 0 hts gX4_readWay_X4_readFrames rfl rfl rfl (by decide +kernel) ⟨Nat.le_of_ble_eq_true rfl, Nat.le_of_ble_eq_true rfl⟩) (va_recv hK hP (ci := 4) (q0 := 0) rfl rfl) hK hP hD hS hB hE [0, 1, 2] rfl rfl rfl rfl rfl hl.1 rfl (Nat.le_of_ble_eq_true rfl) dX4_readWay_85 ⟨Nat.le_of_ble_eq_true rfl, Nat.le_of_ble_eq_true rfl⟩ (fun H locs hP hD hS => ?_)
          refine W.eq (g2 := F0 m 88 ls [.int r24]) rfl ?_
          refine lv_if_ne (tgt := 93) hx hb dX4_readWay_88 (by decide) (fun c29 => ?_) (fun c29 => ?_)
          · have hf := if_n c29 hf
            refine lv_aload_n hx hb dX4_readWay_93 rfl (lv_at hl 2 rfl) ?_
            refine lv_iload_n hx hb dX4_readWay_94 rfl (lv_at hl 0 rfl) ?_
            refine lv_iconst (v := 2) hx hb dX4_readWay_95 (by decide) ?_
            refine lv_aload_n hx hb dX4_readWay_96 rfl (lv_at hl 1 rfl) ?_
            refine va_get (D := D) (ci := 4) (v := .int o27) (C := RX4) (T := TX4) (N := 7) hx hb hts w3 hown hK hP 0 rfl rfl 5 (by decide) w4 (fun _ h9 => h9) rfl dX4_readWay_97 ?_
            obtain ⟨o30, hc31, hf⟩ := bd_inv hf
            refine xcV (As := [.int fwy, .int 2, .int o27]) (rest := []) (ws' := [(ta, .inr (4, [.ref tb, .int tln, .int tcl, .int o25, .int o26, .int o27, .ref tc])), (tb, .inl (cC, 200, .inl tlt)), (tc, .inl (cI, 4, .inl tsv)), (fa, .inr (0, [.int fst, .ref fb, .int fwy, .ref fc, .int fmk, .int fwt])), (fb, .inl (cI, 24, .inl fvl)), (fc, .inl (cI, 84, .inl o30))]) ⟨hx, hb, hml, hown, hts⟩ (c_X0_putPart l D B adK adV cC cF cI cZ cM cS fa fst fb fwy fc fmk fwt fvl o22 fwy 2 o27  o30 hc31) (cwV 3 hts gX4_readWay_X0_putPart rfl rfl rfl (by decide +kernel) ⟨Nat.le_of_ble_eq_true rfl, Nat.le_of_ble_eq_true rfl⟩) (va_recv hK hP (ci := 0) (q0 := 3) rfl rfl) hK hP hD hS hB hE [3, 4, 5] rfl rfl rfl rfl rfl hl.1 rfl (Nat.le_of_ble_eq_true rfl) dX4_readWay_100 ⟨Nat.le_of_ble_eq_true rfl, Nat.le_of_ble_eq_true rfl⟩ (fun H locs hP hD hS => ?_)
            refine W.eq (g2 := F0 m 103 ls []) rfl ?_
            refine lv_aload_n hx hb dX4_readWay_103 rfl (lv_at hl 2 rfl) ?_
            refine lv_iload_n hx hb dX4_readWay_104 rfl (lv_at hl 0 rfl) ?_
            refine lv_iconst (v := 3) hx hb dX4_readWay_105 (by decide) ?_
            refine lv_iconst (v := 0) hx hb dX4_readWay_106 (by decide) ?_
            obtain ⟨o32, hc33, hf⟩ := bd_inv hf
            refine xcV (As := [.int fwy, .int 3, .int 0]) (rest := []) (ws' := [(ta, .inr (4, [.ref tb, .int tln, .int tcl, .int o25, .int o26, .int o27, .ref tc])), (tb, .inl (cC, 200, .inl tlt)), (tc, .inl (cI, 4, .inl tsv)), (fa, .inr (0, [.int fst, .ref fb, .int fwy, .ref fc, .int fmk, .int fwt])), (fb, .inl (cI, 24, .inl fvl)), (fc, .inl (cI, 84, .inl o32))]) ⟨hx, hb, hml, hown, hts⟩ (c_X0_putPart l D B adK adV cC cF cI cZ cM cS fa fst fb fwy fc fmk fwt fvl o30 fwy 3 0  o32 hc33) (cwV 3 hts gX4_readWay_X0_putPart rfl rfl rfl (by decide +kernel) ⟨Nat.le_of_ble_eq_true rfl, Nat.le_of_ble_eq_true rfl⟩) (va_recv hK hP (ci := 0) (q0 := 3) rfl rfl) hK hP hD hS hB hE [3, 4, 5] rfl rfl rfl rfl rfl hl.1 rfl (Nat.le_of_ble_eq_true rfl) dX4_readWay_107 ⟨Nat.le_of_ble_eq_true rfl, Nat.le_of_ble_eq_true rfl⟩ (fun H locs hP hD hS => ?_)
            refine W.eq (g2 := F0 m 110 ls []) rfl ?_
            refine lv_iconst (v := 1) hx hb dX4_readWay_110 (by decide) ?_
            have h1 := Option.some.inj hf
            subst h1
            rw [hQ]
            exact W.zret (v := 1) (ty := .boolean) hx hb hr rfl (fun t ht hW => qEnd hP hS ht) hS.2.2 dX4_readWay_111
          · have hf := if_p c29 hf
            refine lv_iconst (v := 0) hx hb dX4_readWay_91 (by decide) ?_
            have h1 := Option.some.inj hf
            subst h1
            rw [hQ]
            exact W.zret (v := 0) (ty := .boolean) hx hb hr rfl (fun t ht hW => qEnd hP hS ht) hS.2.2 dX4_readWay_92
        · have hf := if_p c21 hf
          refine lv_iconst (v := 0) hx hb dX4_readWay_72 (by decide) ?_
          have h1 := Option.some.inj hf
          subst h1
          rw [hQ]
          exact W.zret (v := 0) (ty := .boolean) hx hb hr rfl (fun t ht hW => qEnd hP hS ht) hS.2.2 dX4_readWay_73
      · have hf := if_p c13 hf
        refine lv_iconst (v := 0) hx hb dX4_readWay_47 (by decide) ?_
        have h1 := Option.some.inj hf
        subst h1
        rw [hQ]
        exact W.zret (v := 0) (ty := .boolean) hx hb hr rfl (fun t ht hW => qEnd hP hS ht) hS.2.2 dX4_readWay_48
    · have hf := if_p c7 hf
      refine lv_bipush (v := 9) hx hb dX4_readWay_30 (by decide) ?_
      refine lv_goto (tgt := 41) hx hb dX4_readWay_32 (by decide) ?_
      obtain ⟨⟨r34, o35, o36, o37⟩, hc38, hf⟩ := bd_inv hf
      refine xcV (As := [.int 9]) (rest := []) (ws' := [(ta, .inr (4, [.ref tb, .int tln, .int tcl, .int o35, .int o36, .int o37, .ref tc])), (tb, .inl (cC, 200, .inl tlt)), (tc, .inl (cI, 4, .inl tsv)), (fa, .inr (0, [.int fst, .ref fb, .int fwy, .ref fc, .int fmk, .int fwt])), (fb, .inl (cI, 24, .inl fvl)), (fc, .inl (cI, 84, .inl fpt))]) ⟨hx, hb, hml, hown, hts⟩ (c_X4_readUpTo l D B adK adV cC cF cI cZ cM cS ta tb tln tcl o2 o3 tam tc tlt tsv 9  (r34, o35, o36, o37) hc38) (cwV 1 hts gX4_readWay_X4_readUpTo rfl rfl rfl (by decide +kernel) ⟨Nat.le_of_ble_eq_true rfl, Nat.le_of_ble_eq_true rfl⟩) (va_recv hK hP (ci := 4) (q0 := 0) rfl rfl) hK hP hD hS hB hE [0, 1, 2] rfl rfl rfl rfl rfl hl.1 rfl (Nat.le_of_ble_eq_true rfl) dX4_readWay_41 ⟨Nat.le_of_ble_eq_true rfl, Nat.le_of_ble_eq_true rfl⟩ (fun H locs hP hD hS => ?_)
      refine W.eq (g2 := F0 m 44 ls [.int r34]) rfl ?_
      refine lv_if_ne (tgt := 49) hx hb dX4_readWay_44 (by decide) (fun c39 => ?_) (fun c39 => ?_)
      · have hf := if_n c39 hf
        refine lv_aload_n hx hb dX4_readWay_49 rfl (lv_at hl 2 rfl) ?_
        refine lv_iload_n hx hb dX4_readWay_50 rfl (lv_at hl 0 rfl) ?_
        refine lv_iconst (v := 0) hx hb dX4_readWay_51 (by decide) ?_
        refine lv_aload_n hx hb dX4_readWay_52 rfl (lv_at hl 1 rfl) ?_
        refine va_get (D := D) (ci := 4) (v := .int o37) (C := RX4) (T := TX4) (N := 7) hx hb hts w3 hown hK hP 0 rfl rfl 5 (by decide) w4 (fun _ h9 => h9) rfl dX4_readWay_53 ?_
        obtain ⟨o40, hc41, hf⟩ := bd_inv hf
        refine xcV (As := [.int fwy, .int 0, .int o37]) (rest := []) (ws' := [(ta, .inr (4, [.ref tb, .int tln, .int tcl, .int o35, .int o36, .int o37, .ref tc])), (tb, .inl (cC, 200, .inl tlt)), (tc, .inl (cI, 4, .inl tsv)), (fa, .inr (0, [.int fst, .ref fb, .int fwy, .ref fc, .int fmk, .int fwt])), (fb, .inl (cI, 24, .inl fvl)), (fc, .inl (cI, 84, .inl o40))]) ⟨hx, hb, hml, hown, hts⟩ (c_X0_putPart l D B adK adV cC cF cI cZ cM cS fa fst fb fwy fc fmk fwt fvl fpt fwy 0 o37  o40 hc41) (cwV 3 hts gX4_readWay_X0_putPart rfl rfl rfl (by decide +kernel) ⟨Nat.le_of_ble_eq_true rfl, Nat.le_of_ble_eq_true rfl⟩) (va_recv hK hP (ci := 0) (q0 := 3) rfl rfl) hK hP hD hS hB hE [3, 4, 5] rfl rfl rfl rfl rfl hl.1 rfl (Nat.le_of_ble_eq_true rfl) dX4_readWay_56 ⟨Nat.le_of_ble_eq_true rfl, Nat.le_of_ble_eq_true rfl⟩ (fun H locs hP hD hS => ?_)
        refine W.eq (g2 := F0 m 59 ls []) rfl ?_
        refine lv_aload_n hx hb dX4_readWay_59 rfl (lv_at hl 1 rfl) ?_
        refine lv_aload_n hx hb dX4_readWay_60 rfl (lv_at hl 2 rfl) ?_
        refine va_getN (D := D) (ci := 0) (v := .int fst) (C := RX0) (T := TX0) (N := 6) hx hb hts w0 hown hK hP 3 rfl rfl 0 (by decide) w2 (fun _ h9 => h9) rfl dX4_readWay_61 ?_
        refine lv_iconst (v := 1) hx hb dX4_readWay_64 (by decide) ?_
        refine lv_isub hx hb dX4_readWay_65 ?_
        obtain ⟨⟨r42, o43, o44, o45⟩, hc46, hf⟩ := bd_inv hf
        refine xcV (As := [.int (fst - 1)]) (rest := []) (ws' := [(ta, .inr (4, [.ref tb, .int tln, .int tcl, .int o43, .int o44, .int o45, .ref tc])), (tb, .inl (cC, 200, .inl tlt)), (tc, .inl (cI, 4, .inl tsv)), (fa, .inr (0, [.int fst, .ref fb, .int fwy, .ref fc, .int fmk, .int fwt])), (fb, .inl (cI, 24, .inl fvl)), (fc, .inl (cI, 84, .inl o40))]) ⟨hx, hb, hml, hown, hts⟩ (c_X4_readUpTo l D B adK adV cC cF cI cZ cM cS ta tb tln tcl o35 o36 o37 tc tlt tsv (fst - 1)  (r42, o43, o44, o45) hc46) (cwV 1 hts gX4_readWay_X4_readUpTo rfl rfl rfl (by decide +kernel) ⟨Nat.le_of_ble_eq_true rfl, Nat.le_of_ble_eq_true rfl⟩) (va_recv hK hP (ci := 4) (q0 := 0) rfl rfl) hK hP hD hS hB hE [0, 1, 2] rfl rfl rfl rfl rfl hl.1 rfl (Nat.le_of_ble_eq_true rfl) dX4_readWay_66 ⟨Nat.le_of_ble_eq_true rfl, Nat.le_of_ble_eq_true rfl⟩ (fun H locs hP hD hS => ?_)
        refine W.eq (g2 := F0 m 69 ls [.int r42]) rfl ?_
        refine lv_if_ne (tgt := 74) hx hb dX4_readWay_69 (by decide) (fun c47 => ?_) (fun c47 => ?_)
        · have hf := if_n c47 hf
          refine lv_aload_n hx hb dX4_readWay_74 rfl (lv_at hl 2 rfl) ?_
          refine lv_iload_n hx hb dX4_readWay_75 rfl (lv_at hl 0 rfl) ?_
          refine lv_iconst (v := 1) hx hb dX4_readWay_76 (by decide) ?_
          refine lv_aload_n hx hb dX4_readWay_77 rfl (lv_at hl 1 rfl) ?_
          refine va_get (D := D) (ci := 4) (v := .int o45) (C := RX4) (T := TX4) (N := 7) hx hb hts w3 hown hK hP 0 rfl rfl 5 (by decide) w4 (fun _ h9 => h9) rfl dX4_readWay_78 ?_
          obtain ⟨o48, hc49, hf⟩ := bd_inv hf
          refine xcV (As := [.int fwy, .int 1, .int o45]) (rest := []) (ws' := [(ta, .inr (4, [.ref tb, .int tln, .int tcl, .int o43, .int o44, .int o45, .ref tc])), (tb, .inl (cC, 200, .inl tlt)), (tc, .inl (cI, 4, .inl tsv)), (fa, .inr (0, [.int fst, .ref fb, .int fwy, .ref fc, .int fmk, .int fwt])), (fb, .inl (cI, 24, .inl fvl)), (fc, .inl (cI, 84, .inl o48))]) ⟨hx, hb, hml, hown, hts⟩ (c_X0_putPart l D B adK adV cC cF cI cZ cM cS fa fst fb fwy fc fmk fwt fvl o40 fwy 1 o45  o48 hc49) (cwV 3 hts gX4_readWay_X0_putPart rfl rfl rfl (by decide +kernel) ⟨Nat.le_of_ble_eq_true rfl, Nat.le_of_ble_eq_true rfl⟩) (va_recv hK hP (ci := 0) (q0 := 3) rfl rfl) hK hP hD hS hB hE [3, 4, 5] rfl rfl rfl rfl rfl hl.1 rfl (Nat.le_of_ble_eq_true rfl) dX4_readWay_81 ⟨Nat.le_of_ble_eq_true rfl, Nat.le_of_ble_eq_true rfl⟩ (fun H locs hP hD hS => ?_)
          refine W.eq (g2 := F0 m 84 ls []) rfl ?_
          refine lv_aload_n hx hb dX4_readWay_84 rfl (lv_at hl 1 rfl) ?_
          obtain ⟨⟨r50, o51, o52, o53⟩, hc54, hf⟩ := bd_inv hf
          refine xcV (As := []) (rest := []) (ws' := [(ta, .inr (4, [.ref tb, .int tln, .int tcl, .int o51, .int o52, .int o53, .ref tc])), (tb, .inl (cC, 200, .inl tlt)), (tc, .inl (cI, 4, .inl tsv)), (fa, .inr (0, [.int fst, .ref fb, .int fwy, .ref fc, .int fmk, .int fwt])), (fb, .inl (cI, 24, .inl fvl)), (fc, .inl (cI, 84, .inl o48))]) ⟨hx, hb, hml, hown, hts⟩ (c_X4_readFrames l D B adK adV cC cF cI cZ cM cS ta tb tln tcl o43 o44 o45 tc tlt tsv  (r50, o51, o52, o53) hc54) (cwV 0 hts gX4_readWay_X4_readFrames rfl rfl rfl (by decide +kernel) ⟨Nat.le_of_ble_eq_true rfl, Nat.le_of_ble_eq_true rfl⟩) (va_recv hK hP (ci := 4) (q0 := 0) rfl rfl) hK hP hD hS hB hE [0, 1, 2] rfl rfl rfl rfl rfl hl.1 rfl (Nat.le_of_ble_eq_true rfl) dX4_readWay_85 ⟨Nat.le_of_ble_eq_true rfl, Nat.le_of_ble_eq_true rfl⟩ (fun H locs hP hD hS => ?_)
          refine W.eq (g2 := F0 m 88 ls [.int r50]) rfl ?_
          refine lv_if_ne (tgt := 93) hx hb dX4_readWay_88 (by decide) (fun c55 => ?_) (fun c55 => ?_)
          · have hf := if_n c55 hf
            refine lv_aload_n hx hb dX4_readWay_93 rfl (lv_at hl 2 rfl) ?_
            refine lv_iload_n hx hb dX4_readWay_94 rfl (lv_at hl 0 rfl) ?_
            refine lv_iconst (v := 2) hx hb dX4_readWay_95 (by decide) ?_
            refine lv_aload_n hx hb dX4_readWay_96 rfl (lv_at hl 1 rfl) ?_
            refine va_get (D := D) (ci := 4) (v := .int o53) (C := RX4) (T := TX4) (N := 7) hx hb hts w3 hown hK hP 0 rfl rfl 5 (by decide) w4 (fun _ h9 => h9) rfl dX4_readWay_97 ?_
            obtain ⟨o56, hc57, hf⟩ := bd_inv hf
            refine xcV (As := [.int fwy, .int 2, .int o53]) (rest := []) (ws' := [(ta, .inr (4, [.ref tb, .int tln, .int tcl, .int o51, .int o52, .int o53, .ref tc])), (tb, .inl (cC, 200, .inl tlt)), (tc, .inl (cI, 4, .inl tsv)), (fa, .inr (0, [.int fst, .ref fb, .int fwy, .ref fc, .int fmk, .int fwt])), (fb, .inl (cI, 24, .inl fvl)), (fc, .inl (cI, 84, .inl o56))]) ⟨hx, hb, hml, hown, hts⟩ (c_X0_putPart l D B adK adV cC cF cI cZ cM cS fa fst fb fwy fc fmk fwt fvl o48 fwy 2 o53  o56 hc57) (cwV 3 hts gX4_readWay_X0_putPart rfl rfl rfl (by decide +kernel) ⟨Nat.le_of_ble_eq_true rfl, Nat.le_of_ble_eq_true rfl⟩) (va_recv hK hP (ci := 0) (q0 := 3) rfl rfl) hK hP hD hS hB hE [3, 4, 5] rfl rfl rfl rfl rfl hl.1 rfl (Nat.le_of_ble_eq_true rfl) dX4_readWay_100 ⟨Nat.le_of_ble_eq_true rfl, Nat.le_of_ble_eq_true rfl⟩ (fun H locs hP hD hS => ?_)
            refine W.eq (g2 := F0 m 103 ls []) rfl ?_
            refine lv_aload_n hx hb dX4_readWay_103 rfl (lv_at hl 2 rfl) ?_
            refine lv_iload_n hx hb dX4_readWay_104 rfl (lv_at hl 0 rfl) ?_
            refine lv_iconst (v := 3) hx hb dX4_readWay_105 (by decide) ?_
            refine lv_iconst (v := 0) hx hb dX4_readWay_106 (by decide) ?_
            obtain ⟨o58, hc59, hf⟩ := bd_inv hf
            refine xcV (As := [.int fwy, .int 3, .int 0]) (rest := []) (ws' := [(ta, .inr (4, [.ref tb, .int tln, .int tcl, .int o51, .int o52, .int o53, .ref tc])), (tb, .inl (cC, 200, .inl tlt)), (tc, .inl (cI, 4, .inl tsv)), (fa, .inr (0, [.int fst, .ref fb, .int fwy, .ref fc, .int fmk, .int fwt])), (fb, .inl (cI, 24, .inl fvl)), (fc, .inl (cI, 84, .inl o58))]) ⟨hx, hb, hml, hown, hts⟩ (c_X0_putPart l D B adK adV cC cF cI cZ cM cS fa fst fb fwy fc fmk fwt fvl o56 fwy 3 0  o58 hc59) (cwV 3 hts gX4_readWay_X0_putPart rfl rfl rfl (by decide +kernel) ⟨Nat.le_of_ble_eq_true rfl, Nat.le_of_ble_eq_true rfl⟩) (va_recv hK hP (ci := 0) (q0 := 3) rfl rfl) hK hP hD hS hB hE [3, 4, 5] rfl rfl rfl rfl rfl hl.1 rfl (Nat.le_of_ble_eq_true rfl) dX4_readWay_107 ⟨Nat.le_of_ble_eq_true rfl, Nat.le_of_ble_eq_true rfl⟩ (fun H locs hP hD hS => ?_)
            refine W.eq (g2 := F0 m 110 ls []) rfl ?_
            refine lv_iconst (v := 1) hx hb dX4_readWay_110 (by decide) ?_
            have h1 := Option.some.inj hf
            subst h1
            rw [hQ]
            exact W.zret (v := 1) (ty := .boolean) hx hb hr rfl (fun t ht hW => qEnd hP hS ht) hS.2.2 dX4_readWay_111
          · have hf := if_p c55 hf
            refine lv_iconst (v := 0) hx hb dX4_readWay_91 (by decide) ?_
            have h1 := Option.some.inj hf
            subst h1
            rw [hQ]
            exact W.zret (v := 0) (ty := .boolean) hx hb hr rfl (fun t ht hW => qEnd hP hS ht) hS.2.2 dX4_readWay_92
        · have hf := if_p c47 hf
          refine lv_iconst (v := 0) hx hb dX4_readWay_72 (by decide) ?_
          have h1 := Option.some.inj hf
          subst h1
          rw [hQ]
          exact W.zret (v := 0) (ty := .boolean) hx hb hr rfl (fun t ht hW => qEnd hP hS ht) hS.2.2 dX4_readWay_73
      · have hf := if_p c39 hf
        refine lv_iconst (v := 0) hx hb dX4_readWay_47 (by decide) ?_
        have h1 := Option.some.inj hf
        subst h1
        rw [hQ]
        exact W.zret (v := 0) (ty := .boolean) hx hb hr rfl (fun t ht hW => qEnd hP hS ht) hS.2.2 dX4_readWay_48
  · have hf := if_n c1 hf
    refine lv_iconst (v := 0) hx hb dX4_readWay_9 (by decide) ?_
    have h1 := Option.some.inj hf
    subst h1
    rw [hQ]
    exact W.zret (v := 0) (ty := .boolean) hx hb hr rfl (fun t ht hW => qEnd hP hS ht) hS.2.2 dX4_readWay_10
set_option maxRecDepth 100000 in
set_option maxHeartbeats 4000000 in
theorem c_X4_readCondition (l : Launch) (D : va_G) (B : Nat) (adK adV : Nat → Nat) (cC cF cI cZ cM cS : ClassId) (ta : Nat) (tb : Nat) (tln : Int32) (tcl : Int32) (tts : Int32) (tte : Int32) (tam : Int32) (tc : Nat) (tlt : Nat → Int32) (tsv : Nat → Int32) (fa : Nat) (fst : Int32) (fb : Nat) (fwy : Int32) (fc : Nat) (fmk : Int32) (fwt : Int32) (fvl : Nat → Int32) (fpt : Nat → Int32) (zz : Int32 × (Nat → Int32) × Int32 × Int32 × Int32 × Int32) (hf : f_X4_readCondition tln tts tte tam tlt fwy fpt = some zz) : Ct l yX4_readCondition wsX4_readCondition { frames := 6, cells := 0, slots := 0, locals := 127 } D B adK adV (tysX cC cF cI cZ cM cS) [.ref ta, .ref fa] [(ta, .inr (4, [.ref tb, .int tln, .int tcl, .int tts, .int tte, .int tam, .ref tc])), (tb, .inl (cC, 200, .inl tlt)), (tc, .inl (cI, 4, .inl tsv)), (fa, .inr (0, [.int fst, .ref fb, .int fwy, .ref fc, .int fmk, .int fwt])), (fb, .inl (cI, 24, .inl fvl)), (fc, .inl (cI, 84, .inl fpt))] [(ta, .inr (4, [.ref tb, .int tln, .int tcl, .int zz.2.2.1, .int zz.2.2.2.1, .int zz.2.2.2.2.1, .ref tc])), (tb, .inl (cC, 200, .inl tlt)), (tc, .inl (cI, 4, .inl tsv)), (fa, .inr (0, [.int fst, .ref fb, .int zz.2.2.2.2.2, .ref fc, .int fmk, .int fwt])), (fb, .inl (cI, 24, .inl fvl)), (fc, .inl (cI, 84, .inl zz.2.1))] (some (.int zz.1)) := by
  refine Ct.ofW (cc := cX4_readCondition) (maxL := 6) (ret := (some .boolean)) (by decide) rfl (Nat.le_of_ble_eq_true rfl) ?_
  intro p e s m args below meth c hx hb hr hml hts hown hlocks hnm hK hE A Q hQ hB H locs ls hP hD hS hl
  have hl : lv_has ls 6 [(0, .ref ta), (1, .ref fa)] := hl
  have w0 : ∀ w ∈ u_ws RX4 TX4 7, w ∈ wsX4_readCondition := by decide +kernel
  have w1 := hts (.fieldLink RX4 84 "MotionStates$Text" "amount" "I") (by decide +kernel)
  have w2 : ∀ w ∈ u_ws RX0 TX0 6, w ∈ wsX4_readCondition := by decide +kernel
  have w3 : (Cond.fieldLinkNest "MotionStates$Text" 96 "MotionStates$Figure" "ways" "I" "MotionStates").before args s = true := va_Nw.use rfl (hE.1 ("MotionStates$Text", 96, "MotionStates$Figure", "ways", "I", "MotionStates") (by decide +kernel))
  unfold f_X4_readCondition at hf
  refine lv_aload_n hx hb dX4_readCondition_0 rfl (lv_at hl 0 rfl) ?_
  obtain ⟨r1, hc2, hf⟩ := bd_inv hf
  refine xcV (As := []) (rest := []) (ws' := [(ta, .inr (4, [.ref tb, .int tln, .int tcl, .int tts, .int tte, .int tam, .ref tc])), (tb, .inl (cC, 200, .inl tlt)), (tc, .inl (cI, 4, .inl tsv)), (fa, .inr (0, [.int fst, .ref fb, .int fwy, .ref fc, .int fmk, .int fwt])), (fb, .inl (cI, 24, .inl fvl)), (fc, .inl (cI, 84, .inl fpt))]) ⟨hx, hb, hml, hown, hts⟩ (c_X4_conditionHere l D B adK adV cC cF cI cZ cM cS ta tb tln tcl tts tte tam tc tlt tsv  r1 hc2) (cwV 0 hts gX4_readCondition_X4_conditionHere rfl rfl rfl (by decide +kernel) ⟨Nat.le_of_ble_eq_true rfl, Nat.le_of_ble_eq_true rfl⟩) (va_recv hK hP (ci := 4) (q0 := 0) rfl rfl) hK hP hD hS hB hE [0, 1, 2] rfl rfl rfl rfl rfl hl.1 rfl (Nat.le_of_ble_eq_true rfl) dX4_readCondition_1 ⟨Nat.le_of_ble_eq_true rfl, Nat.le_of_ble_eq_true rfl⟩ (fun H locs hP hD hS => ?_)
  refine W.eq (g2 := F0 m 4 ls [.int r1]) rfl ?_
  refine lv_istore_n (lv' := [(2, .int r1), (0, .ref ta), (1, .ref fa)]) hx hb dX4_readCondition_4 rfl hl (by decide) rfl (fun ls hl => ?_)
  refine lv_iload_n hx hb dX4_readCondition_5 rfl (lv_at hl 0 rfl) ?_
  refine lv_iconst (v := (-1)) hx hb dX4_readCondition_6 (by decide) ?_
  refine lv_icmp_ne (tgt := 12) hx hb dX4_readCondition_7 (by decide) (fun c3 => ?_) (fun c3 => ?_)
  · have hf := if_n c3 hf
    refine lv_aload_n hx hb dX4_readCondition_12 rfl (lv_at hl 1 rfl) ?_
    obtain ⟨⟨o4, o5⟩, hc6, hf⟩ := bd_inv hf
    refine xcV (As := []) (rest := []) (ws' := [(ta, .inr (4, [.ref tb, .int tln, .int tcl, .int o4, .int o5, .int tam, .ref tc])), (tb, .inl (cC, 200, .inl tlt)), (tc, .inl (cI, 4, .inl tsv)), (fa, .inr (0, [.int fst, .ref fb, .int fwy, .ref fc, .int fmk, .int fwt])), (fb, .inl (cI, 24, .inl fvl)), (fc, .inl (cI, 84, .inl fpt))]) ⟨hx, hb, hml, hown, hts⟩ (c_X4_advance l D B adK adV cC cF cI cZ cM cS ta tb tln tcl tts tte tam tc tlt tsv  (o4, o5) hc6) (cwV 0 hts gX4_readCondition_X4_advance rfl rfl rfl (by decide +kernel) ⟨Nat.le_of_ble_eq_true rfl, Nat.le_of_ble_eq_true rfl⟩) (va_recv hK hP (ci := 4) (q0 := 0) rfl rfl) hK hP hD hS hB hE [0, 1, 2] rfl rfl rfl rfl rfl hl.1 rfl (Nat.le_of_ble_eq_true rfl) dX4_readCondition_13 ⟨Nat.le_of_ble_eq_true rfl, Nat.le_of_ble_eq_true rfl⟩ (fun H locs hP hD hS => ?_)
    refine W.eq (g2 := F0 m 16 ls []) rfl ?_
    refine lv_iconst (v := 0) hx hb dX4_readCondition_16 (by decide) ?_
    refine lv_istore_n (lv' := [(3, .int 0), (2, .int r1), (0, .ref ta), (1, .ref fa)]) hx hb dX4_readCondition_17 rfl hl (by decide) rfl (fun ls hl => ?_)
    refine lv_iload_n hx hb dX4_readCondition_18 rfl (lv_at hl 1 rfl) ?_
    refine lv_if_eq (tgt := 46) hx hb dX4_readCondition_19 (by decide) (fun c7 => ?_) (fun c7 => ?_)
    · have hf := if_p c7 hf
      refine lv_iconst (v := 0) hx hb dX4_readCondition_46 (by decide) ?_
      refine lv_istore (lv' := [(4, .int 0), (3, .int 0), (2, .int r1), (0, .ref ta), (1, .ref fa)]) hx hb dX4_readCondition_47 hl (by decide) rfl (fun ls hl => ?_)
      refine lv_iload_n hx hb dX4_readCondition_49 rfl (lv_at hl 2 rfl) ?_
      refine lv_iconst (v := 3) hx hb dX4_readCondition_50 (by decide) ?_
      refine lv_icmp_eq (tgt := 86) hx hb dX4_readCondition_51 (by decide) (fun c8 => absurd (c7.symm.trans c8) (by decide)) (fun c8 => ?_)
      refine lv_iload_n hx hb dX4_readCondition_54 rfl (lv_at hl 2 rfl) ?_
      refine lv_if_ne (tgt := 67) hx hb dX4_readCondition_55 (by decide) (fun c9 => absurd c7 c9) (fun c9 => ?_)
      refine lv_aload_n hx hb dX4_readCondition_58 rfl (lv_at hl 3 rfl) ?_
      refine lv_bipush (v := 99) hx hb dX4_readCondition_59 (by decide) ?_
      obtain ⟨⟨r10, o11, o12, o13⟩, hc14, hf⟩ := bd_inv hf
      refine xcV (As := [.int 99]) (rest := []) (ws' := [(ta, .inr (4, [.ref tb, .int tln, .int tcl, .int o11, .int o12, .int o13, .ref tc])), (tb, .inl (cC, 200, .inl tlt)), (tc, .inl (cI, 4, .inl tsv)), (fa, .inr (0, [.int fst, .ref fb, .int fwy, .ref fc, .int fmk, .int fwt])), (fb, .inl (cI, 24, .inl fvl)), (fc, .inl (cI, 84, .inl fpt))]) ⟨hx, hb, hml, hown, hts⟩ (c_X4_readUpTo l D B adK adV cC cF cI cZ cM cS ta tb tln tcl o4 o5 tam tc tlt tsv 99  (r10, o11, o12, o13) hc14) (cwV 1 hts gX4_readCondition_X4_readUpTo rfl rfl rfl (by decide +kernel) ⟨Nat.le_of_ble_eq_true rfl, Nat.le_of_ble_eq_true rfl⟩) (va_recv hK hP (ci := 4) (q0 := 0) rfl rfl) hK hP hD hS hB hE [0, 1, 2] rfl rfl rfl rfl rfl hl.1 rfl (Nat.le_of_ble_eq_true rfl) dX4_readCondition_61 ⟨Nat.le_of_ble_eq_true rfl, Nat.le_of_ble_eq_true rfl⟩ (fun H locs hP hD hS => ?_)
      refine W.eq (g2 := F0 m 64 ls [.int r10]) rfl ?_
      refine lv_goto (tgt := 71) hx hb dX4_readCondition_64 (by decide) ?_
      refine lv_istore (lv' := [(5, .int r10), (4, .int 0), (3, .int 0), (2, .int r1), (0, .ref ta), (1, .ref fa)]) hx hb dX4_readCondition_71 hl (by decide) rfl (fun ls hl => ?_)
      refine lv_iload hx hb dX4_readCondition_73 (lv_at hl 0 rfl) ?_
      refine lv_if_ne (tgt := 80) hx hb dX4_readCondition_75 (by decide) (fun c15 => ?_) (fun c15 => ?_)
      · have hf := if_n c15 hf
        refine lv_aload_n hx hb dX4_readCondition_80 rfl (lv_at hl 4 rfl) ?_
        refine va_get (D := D) (ci := 4) (v := .int o13) (C := RX4) (T := TX4) (N := 7) hx hb hts w0 hown hK hP 0 rfl rfl 5 (by decide) w1 (fun _ h9 => h9) rfl dX4_readCondition_81 ?_
        refine lv_istore (lv' := [(4, .int o13), (5, .int r10), (3, .int 0), (2, .int r1), (0, .ref ta), (1, .ref fa)]) hx hb dX4_readCondition_84 hl (by decide) rfl (fun ls hl => ?_)
        refine lv_aload_n hx hb dX4_readCondition_86 rfl (lv_at hl 5 rfl) ?_
        refine lv_aload_n hx hb dX4_readCondition_87 rfl (lv_at hl 5 rfl) ?_
        refine va_getN (D := D) (ci := 0) (v := .int fwy) (C := RX0) (T := TX0) (N := 6) hx hb hts w2 hown hK hP 3 rfl rfl 2 (by decide) w3 (fun _ h9 => h9) rfl dX4_readCondition_88 ?_
        refine lv_iconst (v := 4) hx hb dX4_readCondition_91 (by decide) ?_
        refine lv_iload_n hx hb dX4_readCondition_92 rfl (lv_at hl 3 rfl) ?_
        obtain ⟨o16, hc17, hf⟩ := bd_inv hf
        refine xcV (As := [.int fwy, .int 4, .int r1]) (rest := []) (ws' := [(ta, .inr (4, [.ref tb, .int tln, .int tcl, .int o11, .int o12, .int o13, .ref tc])), (tb, .inl (cC, 200, .inl tlt)), (tc, .inl (cI, 4, .inl tsv)), (fa, .inr (0, [.int fst, .ref fb, .int fwy, .ref fc, .int fmk, .int fwt])), (fb, .inl (cI, 24, .inl fvl)), (fc, .inl (cI, 84, .inl o16))]) ⟨hx, hb, hml, hown, hts⟩ (c_X0_putPart l D B adK adV cC cF cI cZ cM cS fa fst fb fwy fc fmk fwt fvl fpt fwy 4 r1  o16 hc17) (cwV 3 hts gX4_readCondition_X0_putPart rfl rfl rfl (by decide +kernel) ⟨Nat.le_of_ble_eq_true rfl, Nat.le_of_ble_eq_true rfl⟩) (va_recv hK hP (ci := 0) (q0 := 3) rfl rfl) hK hP hD hS hB hE [3, 4, 5] rfl rfl rfl rfl rfl hl.1 rfl (Nat.le_of_ble_eq_true rfl) dX4_readCondition_93 ⟨Nat.le_of_ble_eq_true rfl, Nat.le_of_ble_eq_true rfl⟩ (fun H locs hP hD hS => ?_)
        refine W.eq (g2 := F0 m 96 ls []) rfl ?_
        refine lv_aload_n hx hb dX4_readCondition_96 rfl (lv_at hl 5 rfl) ?_
        refine lv_aload_n hx hb dX4_readCondition_97 rfl (lv_at hl 5 rfl) ?_
        refine va_getN (D := D) (ci := 0) (v := .int fwy) (C := RX0) (T := TX0) (N := 6) hx hb hts w2 hown hK hP 3 rfl rfl 2 (by decide) w3 (fun _ h9 => h9) rfl dX4_readCondition_98 ?_
        refine lv_iconst (v := 5) hx hb dX4_readCondition_101 (by decide) ?_
        refine lv_iload_n hx hb dX4_readCondition_102 rfl (lv_at hl 2 rfl) ?_
        obtain ⟨o18, hc19, hf⟩ := bd_inv hf
        refine xcV (As := [.int fwy, .int 5, .int 0]) (rest := []) (ws' := [(ta, .inr (4, [.ref tb, .int tln, .int tcl, .int o11, .int o12, .int o13, .ref tc])), (tb, .inl (cC, 200, .inl tlt)), (tc, .inl (cI, 4, .inl tsv)), (fa, .inr (0, [.int fst, .ref fb, .int fwy, .ref fc, .int fmk, .int fwt])), (fb, .inl (cI, 24, .inl fvl)), (fc, .inl (cI, 84, .inl o18))]) ⟨hx, hb, hml, hown, hts⟩ (c_X0_putPart l D B adK adV cC cF cI cZ cM cS fa fst fb fwy fc fmk fwt fvl o16 fwy 5 0  o18 hc19) (cwV 3 hts gX4_readCondition_X0_putPart rfl rfl rfl (by decide +kernel) ⟨Nat.le_of_ble_eq_true rfl, Nat.le_of_ble_eq_true rfl⟩) (va_recv hK hP (ci := 0) (q0 := 3) rfl rfl) hK hP hD hS hB hE [3, 4, 5] rfl rfl rfl rfl rfl hl.1 rfl (Nat.le_of_ble_eq_true rfl) dX4_readCondition_103 ⟨Nat.le_of_ble_eq_true rfl, Nat.le_of_ble_eq_true rfl⟩ (fun H locs hP hD hS => ?_)
        refine W.eq (g2 := F0 m 106 ls []) rfl ?_
        refine lv_aload_n hx hb dX4_readCondition_106 rfl (lv_at hl 5 rfl) ?_
        refine lv_aload_n hx hb dX4_readCondition_107 rfl (lv_at hl 5 rfl) ?_
        refine va_getN (D := D) (ci := 0) (v := .int fwy) (C := RX0) (T := TX0) (N := 6) hx hb hts w2 hown hK hP 3 rfl rfl 2 (by decide) w3 (fun _ h9 => h9) rfl dX4_readCondition_108 ?_
        refine lv_bipush (v := 6) hx hb dX4_readCondition_111 (by decide) ?_
        refine lv_iload hx hb dX4_readCondition_113 (lv_at hl 0 rfl) ?_
        obtain ⟨o20, hc21, hf⟩ := bd_inv hf
        refine xcV (As := [.int fwy, .int 6, .int o13]) (rest := []) (ws' := [(ta, .inr (4, [.ref tb, .int tln, .int tcl, .int o11, .int o12, .int o13, .ref tc])), (tb, .inl (cC, 200, .inl tlt)), (tc, .inl (cI, 4, .inl tsv)), (fa, .inr (0, [.int fst, .ref fb, .int fwy, .ref fc, .int fmk, .int fwt])), (fb, .inl (cI, 24, .inl fvl)), (fc, .inl (cI, 84, .inl o20))]) ⟨hx, hb, hml, hown, hts⟩ (c_X0_putPart l D B adK adV cC cF cI cZ cM cS fa fst fb fwy fc fmk fwt fvl o18 fwy 6 o13  o20 hc21) (cwV 3 hts gX4_readCondition_X0_putPart rfl rfl rfl (by decide +kernel) ⟨Nat.le_of_ble_eq_true rfl, Nat.le_of_ble_eq_true rfl⟩) (va_recv hK hP (ci := 0) (q0 := 3) rfl rfl) hK hP hD hS hB hE [3, 4, 5] rfl rfl rfl rfl rfl hl.1 rfl (Nat.le_of_ble_eq_true rfl) dX4_readCondition_115 ⟨Nat.le_of_ble_eq_true rfl, Nat.le_of_ble_eq_true rfl⟩ (fun H locs hP hD hS => ?_)
        refine W.eq (g2 := F0 m 118 ls []) rfl ?_
        refine lv_aload_n hx hb dX4_readCondition_118 rfl (lv_at hl 5 rfl) ?_
        refine lv_dup hx hb dX4_readCondition_119 rfl ?_
        refine va_getN (D := D) (ci := 0) (v := .int fwy) (C := RX0) (T := TX0) (N := 6) hx hb hts w2 hown hK hP 3 rfl rfl 2 (by decide) w3 (fun _ h9 => h9) rfl dX4_readCondition_120 ?_
        refine lv_iconst (v := 1) hx hb dX4_readCondition_123 (by decide) ?_
        refine lv_iadd hx hb dX4_readCondition_124 ?_
        refine va_putN (D := D) (ci := 0) (v := .int (fwy + 1)) (ty := .int) (C := RX0) (T := TX0) (N := 6) hx hb hts w2 tyX0 tyX0_ok nmX0 hown hK hP hD hS 3 rfl rfl 2 (by decide) w3 (fun _ h9 => h9) rfl (by decide +kernel) rfl rfl (Nat.le_of_ble_eq_true rfl) dX4_readCondition_125 (fun H locs hP hD hS => ?_)
        have hP : va_P D vwCl [(ta, .inr (4, [.ref tb, .int tln, .int tcl, .int o11, .int o12, .int o13, .ref tc])), (tb, .inl (cC, 200, .inl tlt)), (tc, .inl (cI, 4, .inl tsv)), (fa, .inr (0, [.int fst, .ref fb, .int (fwy + 1), .ref fc, .int fmk, .int fwt])), (fb, .inl (cI, 24, .inl fvl)), (fc, .inl (cI, 84, .inl o20))] H := hP
        have hD : va_D A [(ta, .inr (4, [.ref tb, .int tln, .int tcl, .int o11, .int o12, .int o13, .ref tc])), (tb, .inl (cC, 200, .inl tlt)), (tc, .inl (cI, 4, .inl tsv)), (fa, .inr (0, [.int fst, .ref fb, .int (fwy + 1), .ref fc, .int fmk, .int fwt])), (fb, .inl (cI, 24, .inl fvl)), (fc, .inl (cI, 84, .inl o20))] := hD
        refine lv_iconst (v := 1) hx hb dX4_readCondition_128 (by decide) ?_
        have h1 := Option.some.inj hf
        subst h1
        rw [hQ]
        exact W.zret (v := 1) (ty := .boolean) hx hb hr rfl (fun t ht hW => qEnd hP hS ht) hS.2.2 dX4_readCondition_129
      · have hf := if_p c15 hf
        refine lv_iconst (v := 0) hx hb dX4_readCondition_78 (by decide) ?_
        have h1 := Option.some.inj hf
        subst h1
        rw [hQ]
        exact W.zret (v := 0) (ty := .boolean) hx hb hr rfl (fun t ht hW => qEnd hP hS ht) hS.2.2 dX4_readCondition_79
    · have hf := if_n c7 hf
      refine lv_aload_n hx hb dX4_readCondition_22 rfl (lv_at hl 2 rfl) ?_
      refine lv_iload_n hx hb dX4_readCondition_23 rfl (lv_at hl 1 rfl) ?_
      refine lv_iconst (v := 3) hx hb dX4_readCondition_24 (by decide) ?_
      refine lv_icmp_ne (tgt := 32) hx hb dX4_readCondition_25 (by decide) (fun c22 => ?_) (fun c22 => ?_)
      · have hf := if_n c22 hf
        refine lv_iconst (v := 2) hx hb dX4_readCondition_32 (by decide) ?_
        obtain ⟨⟨r23, o24, o25, o26⟩, hc27, hf⟩ := bd_inv hf
        refine xcV (As := [.int 2]) (rest := []) (ws' := [(ta, .inr (4, [.ref tb, .int tln, .int tcl, .int o24, .int o25, .int o26, .ref tc])), (tb, .inl (cC, 200, .inl tlt)), (tc, .inl (cI, 4, .inl tsv)), (fa, .inr (0, [.int fst, .ref fb, .int fwy, .ref fc, .int fmk, .int fwt])), (fb, .inl (cI, 24, .inl fvl)), (fc, .inl (cI, 84, .inl fpt))]) ⟨hx, hb, hml, hown, hts⟩ (c_X4_readUpTo l D B adK adV cC cF cI cZ cM cS ta tb tln tcl o4 o5 tam tc tlt tsv 2  (r23, o24, o25, o26) hc27) (cwV 1 hts gX4_readCondition_X4_readUpTo rfl rfl rfl (by decide +kernel) ⟨Nat.le_of_ble_eq_true rfl, Nat.le_of_ble_eq_true rfl⟩) (va_recv hK hP (ci := 4) (q0 := 0) rfl rfl) hK hP hD hS hB hE [0, 1, 2] rfl rfl rfl rfl rfl hl.1 rfl (Nat.le_of_ble_eq_true rfl) dX4_readCondition_33 ⟨Nat.le_of_ble_eq_true rfl, Nat.le_of_ble_eq_true rfl⟩ (fun H locs hP hD hS => ?_)
        refine W.eq (g2 := F0 m 36 ls [.int r23]) rfl ?_
        refine lv_if_ne (tgt := 41) hx hb dX4_readCondition_36 (by decide) (fun c28 => ?_) (fun c28 => ?_)
        · have hf := if_n c28 hf
          refine lv_aload_n hx hb dX4_readCondition_41 rfl (lv_at hl 2 rfl) ?_
          refine va_get (D := D) (ci := 4) (v := .int o26) (C := RX4) (T := TX4) (N := 7) hx hb hts w0 hown hK hP 0 rfl rfl 5 (by decide) w1 (fun _ h9 => h9) rfl dX4_readCondition_42 ?_
          refine lv_istore_n (lv' := [(3, .int o26), (2, .int r1), (0, .ref ta), (1, .ref fa)]) hx hb dX4_readCondition_45 rfl hl (by decide) rfl (fun ls hl => ?_)
          refine lv_iconst (v := 0) hx hb dX4_readCondition_46 (by decide) ?_
          refine lv_istore (lv' := [(4, .int 0), (3, .int o26), (2, .int r1), (0, .ref ta), (1, .ref fa)]) hx hb dX4_readCondition_47 hl (by decide) rfl (fun ls hl => ?_)
          refine lv_iload_n hx hb dX4_readCondition_49 rfl (lv_at hl 2 rfl) ?_
          refine lv_iconst (v := 3) hx hb dX4_readCondition_50 (by decide) ?_
          refine lv_icmp_eq (tgt := 86) hx hb dX4_readCondition_51 (by decide) (fun c29 => absurd c29 c22) (fun c29 => ?_)
          refine lv_iload_n hx hb dX4_readCondition_54 rfl (lv_at hl 2 rfl) ?_
          refine lv_if_ne (tgt := 67) hx hb dX4_readCondition_55 (by decide) (fun c30 => ?_) (fun c30 => absurd c30 c7)
          refine lv_aload_n hx hb dX4_readCondition_67 rfl (lv_at hl 3 rfl) ?_
          obtain ⟨⟨r31, o32, o33, o34⟩, hc35, hf⟩ := bd_inv hf
          refine xcV (As := []) (rest := []) (ws' := [(ta, .inr (4, [.ref tb, .int tln, .int tcl, .int o32, .int o33, .int o34, .ref tc])), (tb, .inl (cC, 200, .inl tlt)), (tc, .inl (cI, 4, .inl tsv)), (fa, .inr (0, [.int fst, .ref fb, .int fwy, .ref fc, .int fmk, .int fwt])), (fb, .inl (cI, 24, .inl fvl)), (fc, .inl (cI, 84, .inl fpt))]) ⟨hx, hb, hml, hown, hts⟩ (c_X4_readSigned l D B adK adV cC cF cI cZ cM cS ta tb tln tcl o24 o25 o26 tc tlt tsv  (r31, o32, o33, o34) hc35) (cwV 0 hts gX4_readCondition_X4_readSigned rfl rfl rfl (by decide +kernel) ⟨Nat.le_of_ble_eq_true rfl, Nat.le_of_ble_eq_true rfl⟩) (va_recv hK hP (ci := 4) (q0 := 0) rfl rfl) hK hP hD hS hB hE [0, 1, 2] rfl rfl rfl rfl rfl hl.1 rfl (Nat.le_of_ble_eq_true rfl) dX4_readCondition_68 ⟨Nat.le_of_ble_eq_true rfl, Nat.le_of_ble_eq_true rfl⟩ (fun H locs hP hD hS => ?_)
          refine W.eq (g2 := F0 m 71 ls [.int r31]) rfl ?_
          refine lv_istore (lv' := [(5, .int r31), (4, .int 0), (3, .int o26), (2, .int r1), (0, .ref ta), (1, .ref fa)]) hx hb dX4_readCondition_71 hl (by decide) rfl (fun ls hl => ?_)
          refine lv_iload hx hb dX4_readCondition_73 (lv_at hl 0 rfl) ?_
          refine lv_if_ne (tgt := 80) hx hb dX4_readCondition_75 (by decide) (fun c36 => ?_) (fun c36 => ?_)
          · have hf := if_n c36 hf
            refine lv_aload_n hx hb dX4_readCondition_80 rfl (lv_at hl 4 rfl) ?_
            refine va_get (D := D) (ci := 4) (v := .int o34) (C := RX4) (T := TX4) (N := 7) hx hb hts w0 hown hK hP 0 rfl rfl 5 (by decide) w1 (fun _ h9 => h9) rfl dX4_readCondition_81 ?_
            refine lv_istore (lv' := [(4, .int o34), (5, .int r31), (3, .int o26), (2, .int r1), (0, .ref ta), (1, .ref fa)]) hx hb dX4_readCondition_84 hl (by decide) rfl (fun ls hl => ?_)
            refine lv_aload_n hx hb dX4_readCondition_86 rfl (lv_at hl 5 rfl) ?_
            refine lv_aload_n hx hb dX4_readCondition_87 rfl (lv_at hl 5 rfl) ?_
            refine va_getN (D := D) (ci := 0) (v := .int fwy) (C := RX0) (T := TX0) (N := 6) hx hb hts w2 hown hK hP 3 rfl rfl 2 (by decide) w3 (fun _ h9 => h9) rfl dX4_readCondition_88 ?_
            refine lv_iconst (v := 4) hx hb dX4_readCondition_91 (by decide) ?_
            refine lv_iload_n hx hb dX4_readCondition_92 rfl (lv_at hl 3 rfl) ?_
            obtain ⟨o37, hc38, hf⟩ := bd_inv hf
            refine xcV (As := [.int fwy, .int 4, .int r1]) (rest := []) (ws' := [(ta, .inr (4, [.ref tb, .int tln, .int tcl, .int o32, .int o33, .int o34, .ref tc])), (tb, .inl (cC, 200, .inl tlt)), (tc, .inl (cI, 4, .inl tsv)), (fa, .inr (0, [.int fst, .ref fb, .int fwy, .ref fc, .int fmk, .int fwt])), (fb, .inl (cI, 24, .inl fvl)), (fc, .inl (cI, 84, .inl o37))]) ⟨hx, hb, hml, hown, hts⟩ (c_X0_putPart l D B adK adV cC cF cI cZ cM cS fa fst fb fwy fc fmk fwt fvl fpt fwy 4 r1  o37 hc38) (cwV 3 hts gX4_readCondition_X0_putPart rfl rfl rfl (by decide +kernel) ⟨Nat.le_of_ble_eq_true rfl, Nat.le_of_ble_eq_true rfl⟩) (va_recv hK hP (ci := 0) (q0 := 3) rfl rfl) hK hP hD hS hB hE [3, 4, 5] rfl rfl rfl rfl rfl hl.1 rfl (Nat.le_of_ble_eq_true rfl) dX4_readCondition_93 ⟨Nat.le_of_ble_eq_true rfl, Nat.le_of_ble_eq_true rfl⟩ (fun H locs hP hD hS => ?_)
            refine W.eq (g2 := F0 m 96 ls []) rfl ?_
            refine lv_aload_n hx hb dX4_readCondition_96 rfl (lv_at hl 5 rfl) ?_
            refine lv_aload_n hx hb dX4_readCondition_97 rfl (lv_at hl 5 rfl) ?_
            refine va_getN (D := D) (ci := 0) (v := .int fwy) (C := RX0) (T := TX0) (N := 6) hx hb hts w2 hown hK hP 3 rfl rfl 2 (by decide) w3 (fun _ h9 => h9) rfl dX4_readCondition_98 ?_
            refine lv_iconst (v := 5) hx hb dX4_readCondition_101 (by decide) ?_
            refine lv_iload_n hx hb dX4_readCondition_102 rfl (lv_at hl 2 rfl) ?_
            obtain ⟨o39, hc40, hf⟩ := bd_inv hf
            refine xcV (As := [.int fwy, .int 5, .int o26]) (rest := []) (ws' := [(ta, .inr (4, [.ref tb, .int tln, .int tcl, .int o32, .int o33, .int o34, .ref tc])), (tb, .inl (cC, 200, .inl tlt)), (tc, .inl (cI, 4, .inl tsv)), (fa, .inr (0, [.int fst, .ref fb, .int fwy, .ref fc, .int fmk, .int fwt])), (fb, .inl (cI, 24, .inl fvl)), (fc, .inl (cI, 84, .inl o39))]) ⟨hx, hb, hml, hown, hts⟩ (c_X0_putPart l D B adK adV cC cF cI cZ cM cS fa fst fb fwy fc fmk fwt fvl o37 fwy 5 o26  o39 hc40) (cwV 3 hts gX4_readCondition_X0_putPart rfl rfl rfl (by decide +kernel) ⟨Nat.le_of_ble_eq_true rfl, Nat.le_of_ble_eq_true rfl⟩) (va_recv hK hP (ci := 0) (q0 := 3) rfl rfl) hK hP hD hS hB hE [3, 4, 5] rfl rfl rfl rfl rfl hl.1 rfl (Nat.le_of_ble_eq_true rfl) dX4_readCondition_103 ⟨Nat.le_of_ble_eq_true rfl, Nat.le_of_ble_eq_true rfl⟩ (fun H locs hP hD hS => ?_)
            refine W.eq (g2 := F0 m 106 ls []) rfl ?_
            refine lv_aload_n hx hb dX4_readCondition_106 rfl (lv_at hl 5 rfl) ?_
            refine lv_aload_n hx hb dX4_readCondition_107 rfl (lv_at hl 5 rfl) ?_
            refine va_getN (D := D) (ci := 0) (v := .int fwy) (C := RX0) (T := TX0) (N := 6) hx hb hts w2 hown hK hP 3 rfl rfl 2 (by decide) w3 (fun _ h9 => h9) rfl dX4_readCondition_108 ?_
            refine lv_bipush (v := 6) hx hb dX4_readCondition_111 (by decide) ?_
            refine lv_iload hx hb dX4_readCondition_113 (lv_at hl 0 rfl) ?_
            obtain ⟨o41, hc42, hf⟩ := bd_inv hf
            refine xcV (As := [.int fwy, .int 6, .int o34]) (rest := []) (ws' := [(ta, .inr (4, [.ref tb, .int tln, .int tcl, .int o32, .int o33, .int o34, .ref tc])), (tb, .inl (cC, 200, .inl tlt)), (tc, .inl (cI, 4, .inl tsv)), (fa, .inr (0, [.int fst, .ref fb, .int fwy, .ref fc, .int fmk, .int fwt])), (fb, .inl (cI, 24, .inl fvl)), (fc, .inl (cI, 84, .inl o41))]) ⟨hx, hb, hml, hown, hts⟩ (c_X0_putPart l D B adK adV cC cF cI cZ cM cS fa fst fb fwy fc fmk fwt fvl o39 fwy 6 o34  o41 hc42) (cwV 3 hts gX4_readCondition_X0_putPart rfl rfl rfl (by decide +kernel) ⟨Nat.le_of_ble_eq_true rfl, Nat.le_of_ble_eq_true rfl⟩) (va_recv hK hP (ci := 0) (q0 := 3) rfl rfl) hK hP hD hS hB hE [3, 4, 5] rfl rfl rfl rfl rfl hl.1 rfl (Nat.le_of_ble_eq_true rfl) dX4_readCondition_115 ⟨Nat.le_of_ble_eq_true rfl, Nat.le_of_ble_eq_true rfl⟩ (fun H locs hP hD hS => ?_)
            refine W.eq (g2 := F0 m 118 ls []) rfl ?_
            refine lv_aload_n hx hb dX4_readCondition_118 rfl (lv_at hl 5 rfl) ?_
            refine lv_dup hx hb dX4_readCondition_119 rfl ?_
            refine va_getN (D := D) (ci := 0) (v := .int fwy) (C := RX0) (T := TX0) (N := 6) hx hb hts w2 hown hK hP 3 rfl rfl 2 (by decide) w3 (fun _ h9 => h9) rfl dX4_readCondition_120 ?_
            refine lv_iconst (v := 1) hx hb dX4_readCondition_123 (by decide) ?_
            refine lv_iadd hx hb dX4_readCondition_124 ?_
            refine va_putN (D := D) (ci := 0) (v := .int (fwy + 1)) (ty := .int) (C := RX0) (T := TX0) (N := 6) hx hb hts w2 tyX0 tyX0_ok nmX0 hown hK hP hD hS 3 rfl rfl 2 (by decide) w3 (fun _ h9 => h9) rfl (by decide +kernel) rfl rfl (Nat.le_of_ble_eq_true rfl) dX4_readCondition_125 (fun H locs hP hD hS => ?_)
            have hP : va_P D vwCl [(ta, .inr (4, [.ref tb, .int tln, .int tcl, .int o32, .int o33, .int o34, .ref tc])), (tb, .inl (cC, 200, .inl tlt)), (tc, .inl (cI, 4, .inl tsv)), (fa, .inr (0, [.int fst, .ref fb, .int (fwy + 1), .ref fc, .int fmk, .int fwt])), (fb, .inl (cI, 24, .inl fvl)), (fc, .inl (cI, 84, .inl o41))] H := hP
            have hD : va_D A [(ta, .inr (4, [.ref tb, .int tln, .int tcl, .int o32, .int o33, .int o34, .ref tc])), (tb, .inl (cC, 200, .inl tlt)), (tc, .inl (cI, 4, .inl tsv)), (fa, .inr (0, [.int fst, .ref fb, .int (fwy + 1), .ref fc, .int fmk, .int fwt])), (fb, .inl (cI, 24, .inl fvl)), (fc, .inl (cI, 84, .inl o41))] := hD
            refine lv_iconst (v := 1) hx hb dX4_readCondition_128 (by decide) ?_
            have h1 := Option.some.inj hf
            subst h1
            rw [hQ]
            exact W.zret (v := 1) (ty := .boolean) hx hb hr rfl (fun t ht hW => qEnd hP hS ht) hS.2.2 dX4_readCondition_129
          · have hf := if_p c36 hf
            refine lv_iconst (v := 0) hx hb dX4_readCondition_78 (by decide) ?_
            have h1 := Option.some.inj hf
            subst h1
            rw [hQ]
            exact W.zret (v := 0) (ty := .boolean) hx hb hr rfl (fun t ht hW => qEnd hP hS ht) hS.2.2 dX4_readCondition_79
        · have hf := if_p c28 hf
          refine lv_iconst (v := 0) hx hb dX4_readCondition_39 (by decide) ?_
          have h1 := Option.some.inj hf
          subst h1
          rw [hQ]
          exact W.zret (v := 0) (ty := .boolean) hx hb hr rfl (fun t ht hW => qEnd hP hS ht) hS.2.2 dX4_readCondition_40
      · have hf := if_p c22 hf
        refine lv_iconst (v := 2) hx hb dX4_readCondition_28 (by decide) ?_
        refine lv_goto (tgt := 33) hx hb dX4_readCondition_29 (by decide) ?_
        obtain ⟨⟨r43, o44, o45, o46⟩, hc47, hf⟩ := bd_inv hf
        refine xcV (As := [.int 2]) (rest := []) (ws' := [(ta, .inr (4, [.ref tb, .int tln, .int tcl, .int o44, .int o45, .int o46, .ref tc])), (tb, .inl (cC, 200, .inl tlt)), (tc, .inl (cI, 4, .inl tsv)), (fa, .inr (0, [.int fst, .ref fb, .int fwy, .ref fc, .int fmk, .int fwt])), (fb, .inl (cI, 24, .inl fvl)), (fc, .inl (cI, 84, .inl fpt))]) ⟨hx, hb, hml, hown, hts⟩ (c_X4_readUpTo l D B adK adV cC cF cI cZ cM cS ta tb tln tcl o4 o5 tam tc tlt tsv 2  (r43, o44, o45, o46) hc47) (cwV 1 hts gX4_readCondition_X4_readUpTo rfl rfl rfl (by decide +kernel) ⟨Nat.le_of_ble_eq_true rfl, Nat.le_of_ble_eq_true rfl⟩) (va_recv hK hP (ci := 4) (q0 := 0) rfl rfl) hK hP hD hS hB hE [0, 1, 2] rfl rfl rfl rfl rfl hl.1 rfl (Nat.le_of_ble_eq_true rfl) dX4_readCondition_33 ⟨Nat.le_of_ble_eq_true rfl, Nat.le_of_ble_eq_true rfl⟩ (fun H locs hP hD hS => ?_)
        refine W.eq (g2 := F0 m 36 ls [.int r43]) rfl ?_
        refine lv_if_ne (tgt := 41) hx hb dX4_readCondition_36 (by decide) (fun c48 => ?_) (fun c48 => ?_)
        · have hf := if_n c48 hf
          refine lv_aload_n hx hb dX4_readCondition_41 rfl (lv_at hl 2 rfl) ?_
          refine va_get (D := D) (ci := 4) (v := .int o46) (C := RX4) (T := TX4) (N := 7) hx hb hts w0 hown hK hP 0 rfl rfl 5 (by decide) w1 (fun _ h9 => h9) rfl dX4_readCondition_42 ?_
          refine lv_istore_n (lv' := [(3, .int o46), (2, .int r1), (0, .ref ta), (1, .ref fa)]) hx hb dX4_readCondition_45 rfl hl (by decide) rfl (fun ls hl => ?_)
          refine lv_iconst (v := 0) hx hb dX4_readCondition_46 (by decide) ?_
          refine lv_istore (lv' := [(4, .int 0), (3, .int o46), (2, .int r1), (0, .ref ta), (1, .ref fa)]) hx hb dX4_readCondition_47 hl (by decide) rfl (fun ls hl => ?_)
          refine lv_iload_n hx hb dX4_readCondition_49 rfl (lv_at hl 2 rfl) ?_
          refine lv_iconst (v := 3) hx hb dX4_readCondition_50 (by decide) ?_
          refine lv_icmp_eq (tgt := 86) hx hb dX4_readCondition_51 (by decide) (fun c49 => ?_) (fun c49 => absurd c22 c49)
          refine lv_aload_n hx hb dX4_readCondition_86 rfl (lv_at hl 4 rfl) ?_
          refine lv_aload_n hx hb dX4_readCondition_87 rfl (lv_at hl 4 rfl) ?_
          refine va_getN (D := D) (ci := 0) (v := .int fwy) (C := RX0) (T := TX0) (N := 6) hx hb hts w2 hown hK hP 3 rfl rfl 2 (by decide) w3 (fun _ h9 => h9) rfl dX4_readCondition_88 ?_
          refine lv_iconst (v := 4) hx hb dX4_readCondition_91 (by decide) ?_
          refine lv_iload_n hx hb dX4_readCondition_92 rfl (lv_at hl 2 rfl) ?_
          obtain ⟨o50, hc51, hf⟩ := bd_inv hf
          refine xcV (As := [.int fwy, .int 4, .int r1]) (rest := []) (ws' := [(ta, .inr (4, [.ref tb, .int tln, .int tcl, .int o44, .int o45, .int o46, .ref tc])), (tb, .inl (cC, 200, .inl tlt)), (tc, .inl (cI, 4, .inl tsv)), (fa, .inr (0, [.int fst, .ref fb, .int fwy, .ref fc, .int fmk, .int fwt])), (fb, .inl (cI, 24, .inl fvl)), (fc, .inl (cI, 84, .inl o50))]) ⟨hx, hb, hml, hown, hts⟩ (c_X0_putPart l D B adK adV cC cF cI cZ cM cS fa fst fb fwy fc fmk fwt fvl fpt fwy 4 r1  o50 hc51) (cwV 3 hts gX4_readCondition_X0_putPart rfl rfl rfl (by decide +kernel) ⟨Nat.le_of_ble_eq_true rfl, Nat.le_of_ble_eq_true rfl⟩) (va_recv hK hP (ci := 0) (q0 := 3) rfl rfl) hK hP hD hS hB hE [3, 4, 5] rfl rfl rfl rfl rfl hl.1 rfl (Nat.le_of_ble_eq_true rfl) dX4_readCondition_93 ⟨Nat.le_of_ble_eq_true rfl, Nat.le_of_ble_eq_true rfl⟩ (fun H locs hP hD hS => ?_)
          refine W.eq (g2 := F0 m 96 ls []) rfl ?_
          refine lv_aload_n hx hb dX4_readCondition_96 rfl (lv_at hl 4 rfl) ?_
          refine lv_aload_n hx hb dX4_readCondition_97 rfl (lv_at hl 4 rfl) ?_
          refine va_getN (D := D) (ci := 0) (v := .int fwy) (C := RX0) (T := TX0) (N := 6) hx hb hts w2 hown hK hP 3 rfl rfl 2 (by decide) w3 (fun _ h9 => h9) rfl dX4_readCondition_98 ?_
          refine lv_iconst (v := 5) hx hb dX4_readCondition_101 (by decide) ?_
          refine lv_iload_n hx hb dX4_readCondition_102 rfl (lv_at hl 1 rfl) ?_
          obtain ⟨o52, hc53, hf⟩ := bd_inv hf
          refine xcV (As := [.int fwy, .int 5, .int o46]) (rest := []) (ws' := [(ta, .inr (4, [.ref tb, .int tln, .int tcl, .int o44, .int o45, .int o46, .ref tc])), (tb, .inl (cC, 200, .inl tlt)), (tc, .inl (cI, 4, .inl tsv)), (fa, .inr (0, [.int fst, .ref fb, .int fwy, .ref fc, .int fmk, .int fwt])), (fb, .inl (cI, 24, .inl fvl)), (fc, .inl (cI, 84, .inl o52))]) ⟨hx, hb, hml, hown, hts⟩ (c_X0_putPart l D B adK adV cC cF cI cZ cM cS fa fst fb fwy fc fmk fwt fvl o50 fwy 5 o46  o52 hc53) (cwV 3 hts gX4_readCondition_X0_putPart rfl rfl rfl (by decide +kernel) ⟨Nat.le_of_ble_eq_true rfl, Nat.le_of_ble_eq_true rfl⟩) (va_recv hK hP (ci := 0) (q0 := 3) rfl rfl) hK hP hD hS hB hE [3, 4, 5] rfl rfl rfl rfl rfl hl.1 rfl (Nat.le_of_ble_eq_true rfl) dX4_readCondition_103 ⟨Nat.le_of_ble_eq_true rfl, Nat.le_of_ble_eq_true rfl⟩ (fun H locs hP hD hS => ?_)
          refine W.eq (g2 := F0 m 106 ls []) rfl ?_
          refine lv_aload_n hx hb dX4_readCondition_106 rfl (lv_at hl 4 rfl) ?_
          refine lv_aload_n hx hb dX4_readCondition_107 rfl (lv_at hl 4 rfl) ?_
          refine va_getN (D := D) (ci := 0) (v := .int fwy) (C := RX0) (T := TX0) (N := 6) hx hb hts w2 hown hK hP 3 rfl rfl 2 (by decide) w3 (fun _ h9 => h9) rfl dX4_readCondition_108 ?_
          refine lv_bipush (v := 6) hx hb dX4_readCondition_111 (by decide) ?_
          refine lv_iload hx hb dX4_readCondition_113 (lv_at hl 0 rfl) ?_
          obtain ⟨o54, hc55, hf⟩ := bd_inv hf
          refine xcV (As := [.int fwy, .int 6, .int 0]) (rest := []) (ws' := [(ta, .inr (4, [.ref tb, .int tln, .int tcl, .int o44, .int o45, .int o46, .ref tc])), (tb, .inl (cC, 200, .inl tlt)), (tc, .inl (cI, 4, .inl tsv)), (fa, .inr (0, [.int fst, .ref fb, .int fwy, .ref fc, .int fmk, .int fwt])), (fb, .inl (cI, 24, .inl fvl)), (fc, .inl (cI, 84, .inl o54))]) ⟨hx, hb, hml, hown, hts⟩ (c_X0_putPart l D B adK adV cC cF cI cZ cM cS fa fst fb fwy fc fmk fwt fvl o52 fwy 6 0  o54 hc55) (cwV 3 hts gX4_readCondition_X0_putPart rfl rfl rfl (by decide +kernel) ⟨Nat.le_of_ble_eq_true rfl, Nat.le_of_ble_eq_true rfl⟩) (va_recv hK hP (ci := 0) (q0 := 3) rfl rfl) hK hP hD hS hB hE [3, 4, 5] rfl rfl rfl rfl rfl hl.1 rfl (Nat.le_of_ble_eq_true rfl) dX4_readCondition_115 ⟨Nat.le_of_ble_eq_true rfl, Nat.le_of_ble_eq_true rfl⟩ (fun H locs hP hD hS => ?_)
          refine W.eq (g2 := F0 m 118 ls []) rfl ?_
          refine lv_aload_n hx hb dX4_readCondition_118 rfl (lv_at hl 4 rfl) ?_
          refine lv_dup hx hb dX4_readCondition_119 rfl ?_
          refine va_getN (D := D) (ci := 0) (v := .int fwy) (C := RX0) (T := TX0) (N := 6) hx hb hts w2 hown hK hP 3 rfl rfl 2 (by decide) w3 (fun _ h9 => h9) rfl dX4_readCondition_120 ?_
          refine lv_iconst (v := 1) hx hb dX4_readCondition_123 (by decide) ?_
          refine lv_iadd hx hb dX4_readCondition_124 ?_
          refine va_putN (D := D) (ci := 0) (v := .int (fwy + 1)) (ty := .int) (C := RX0) (T := TX0) (N := 6) hx hb hts w2 tyX0 tyX0_ok nmX0 hown hK hP hD hS 3 rfl rfl 2 (by decide) w3 (fun _ h9 => h9) rfl (by decide +kernel) rfl rfl (Nat.le_of_ble_eq_true rfl) dX4_readCondition_125 (fun H locs hP hD hS => ?_)
          have hP : va_P D vwCl [(ta, .inr (4, [.ref tb, .int tln, .int tcl, .int o44, .int o45, .int o46, .ref tc])), (tb, .inl (cC, 200, .inl tlt)), (tc, .inl (cI, 4, .inl tsv)), (fa, .inr (0, [.int fst, .ref fb, .int (fwy + 1), .ref fc, .int fmk, .int fwt])), (fb, .inl (cI, 24, .inl fvl)), (fc, .inl (cI, 84, .inl o54))] H := hP
          have hD : va_D A [(ta, .inr (4, [.ref tb, .int tln, .int tcl, .int o44, .int o45, .int o46, .ref tc])), (tb, .inl (cC, 200, .inl tlt)), (tc, .inl (cI, 4, .inl tsv)), (fa, .inr (0, [.int fst, .ref fb, .int (fwy + 1), .ref fc, .int fmk, .int fwt])), (fb, .inl (cI, 24, .inl fvl)), (fc, .inl (cI, 84, .inl o54))] := hD
          refine lv_iconst (v := 1) hx hb dX4_readCondition_128 (by decide) ?_
          have h1 := Option.some.inj hf
          subst h1
          rw [hQ]
          exact W.zret (v := 1) (ty := .boolean) hx hb hr rfl (fun t ht hW => qEnd hP hS ht) hS.2.2 dX4_readCondition_129
        · have hf := if_p c48 hf
          refine lv_iconst (v := 0) hx hb dX4_readCondition_39 (by decide) ?_
          have h1 := Option.some.inj hf
          subst h1
          rw [hQ]
          exact W.zret (v := 0) (ty := .boolean) hx hb hr rfl (fun t ht hW => qEnd hP hS ht) hS.2.2 dX4_readCondition_40
  · have hf := if_p c3 hf
    refine lv_iconst (v := 0) hx hb dX4_readCondition_10 (by decide) ?_
    have h1 := Option.some.inj hf
    subst h1
    rw [hQ]
    exact W.zret (v := 0) (ty := .boolean) hx hb hr rfl (fun t ht hW => qEnd hP hS ht) hS.2.2 dX4_readCondition_11
set_option maxRecDepth 100000 in
set_option maxHeartbeats 4000000 in
theorem c_X4_readClause (l : Launch) (D : va_G) (B : Nat) (adK adV : Nat → Nat) (cC cF cI cZ cM cS : ClassId) (ta : Nat) (tb : Nat) (tln : Int32) (tcl : Int32) (tts : Int32) (tte : Int32) (tam : Int32) (tc : Nat) (tlt : Nat → Int32) (tsv : Nat → Int32) (fa : Nat) (fst : Int32) (fb : Nat) (fwy : Int32) (fc : Nat) (fmk : Int32) (fwt : Int32) (fvl : Nat → Int32) (fpt : Nat → Int32) (zz : Int32 × (Nat → Int32) × (Nat → Int32) × (Nat → Int32) × Int32 × Int32 × Int32 × Int32 × Int32 × Int32 × Int32) (hf : f_X4_readClause tln tts tte tam tlt tsv fst fwy fmk fwt fvl fpt = some zz) : Ct l yX4_readClause wsX4_readClause { frames := 7, cells := 0, slots := 0, locals := 152 } D B adK adV (tysX cC cF cI cZ cM cS) [.ref ta, .ref fa] [(ta, .inr (4, [.ref tb, .int tln, .int tcl, .int tts, .int tte, .int tam, .ref tc])), (tb, .inl (cC, 200, .inl tlt)), (tc, .inl (cI, 4, .inl tsv)), (fa, .inr (0, [.int fst, .ref fb, .int fwy, .ref fc, .int fmk, .int fwt])), (fb, .inl (cI, 24, .inl fvl)), (fc, .inl (cI, 84, .inl fpt))] [(ta, .inr (4, [.ref tb, .int tln, .int tcl, .int zz.2.2.2.2.1, .int zz.2.2.2.2.2.1, .int zz.2.2.2.2.2.2.1, .ref tc])), (tb, .inl (cC, 200, .inl tlt)), (tc, .inl (cI, 4, .inl zz.2.1)), (fa, .inr (0, [.int zz.2.2.2.2.2.2.2.1, .ref fb, .int zz.2.2.2.2.2.2.2.2.1, .ref fc, .int zz.2.2.2.2.2.2.2.2.2.1, .int zz.2.2.2.2.2.2.2.2.2.2])), (fb, .inl (cI, 24, .inl zz.2.2.1)), (fc, .inl (cI, 84, .inl zz.2.2.2.1))] (some (.int zz.1)) := by
  refine Ct.ofW (cc := cX4_readClause) (maxL := 2) (ret := (some .boolean)) (by decide) rfl (Nat.le_of_ble_eq_true rfl) ?_
  intro p e s m args below meth c hx hb hr hml hts hown hlocks hnm hK hE A Q hQ hB H locs ls hP hD hS hl
  have hl : lv_has ls 2 [(0, .ref ta), (1, .ref fa)] := hl
  unfold f_X4_readClause at hf
  refine lv_aload_n hx hb dX4_readClause_0 rfl (lv_at hl 0 rfl) ?_
  refine va_ldcS hx hb hown (hE.2.2.1 0 (by decide)) dX4_readClause_1 ?_
  obtain ⟨r1, hc2, hf⟩ := bd_inv hf
  refine xcV (As := [.ref (adK 0)]) (rest := []) (ws' := [(ta, .inr (4, [.ref tb, .int tln, .int tcl, .int tts, .int tte, .int tam, .ref tc])), (tb, .inl (cC, 200, .inl tlt)), (tc, .inl (cI, 4, .inl tsv)), (fa, .inr (0, [.int fst, .ref fb, .int fwy, .ref fc, .int fmk, .int fwt])), (fb, .inl (cI, 24, .inl fvl)), (fc, .inl (cI, 84, .inl fpt))]) ⟨hx, hb, hml, hown, hts⟩ (c_X4_isWord l D B adK adV cC cF cI cZ cM cS ta tb tln tcl tts tte tam tc tlt tsv 0 (by decide) r1 hc2) (cwV 1 hts gX4_readClause_X4_isWord rfl rfl rfl (by decide +kernel) ⟨Nat.le_of_ble_eq_true rfl, Nat.le_of_ble_eq_true rfl⟩) (va_recv hK hP (ci := 4) (q0 := 0) rfl rfl) hK hP hD hS hB hE [0, 1, 2] rfl rfl rfl rfl rfl hl.1 rfl (Nat.le_of_ble_eq_true rfl) dX4_readClause_3 ⟨Nat.le_of_ble_eq_true rfl, Nat.le_of_ble_eq_true rfl⟩ (fun H locs hP hD hS => ?_)
  refine W.eq (g2 := F0 m 6 ls [.int r1]) rfl ?_
  refine lv_if_eq (tgt := 19) hx hb dX4_readClause_6 (by decide) (fun c3 => ?_) (fun c3 => ?_)
  · have hf := if_p c3 hf
    refine lv_aload_n hx hb dX4_readClause_19 rfl (lv_at hl 0 rfl) ?_
    refine va_ldcS hx hb hown (hE.2.2.1 1 (by decide)) dX4_readClause_20 ?_
    obtain ⟨r4, hc5, hf⟩ := bd_inv hf
    refine xcV (As := [.ref (adK 1)]) (rest := []) (ws' := [(ta, .inr (4, [.ref tb, .int tln, .int tcl, .int tts, .int tte, .int tam, .ref tc])), (tb, .inl (cC, 200, .inl tlt)), (tc, .inl (cI, 4, .inl tsv)), (fa, .inr (0, [.int fst, .ref fb, .int fwy, .ref fc, .int fmk, .int fwt])), (fb, .inl (cI, 24, .inl fvl)), (fc, .inl (cI, 84, .inl fpt))]) ⟨hx, hb, hml, hown, hts⟩ (c_X4_isWord l D B adK adV cC cF cI cZ cM cS ta tb tln tcl tts tte tam tc tlt tsv 1 (by decide) r4 hc5) (cwV 1 hts gX4_readClause_X4_isWord rfl rfl rfl (by decide +kernel) ⟨Nat.le_of_ble_eq_true rfl, Nat.le_of_ble_eq_true rfl⟩) (va_recv hK hP (ci := 4) (q0 := 0) rfl rfl) hK hP hD hS hB hE [0, 1, 2] rfl rfl rfl rfl rfl hl.1 rfl (Nat.le_of_ble_eq_true rfl) dX4_readClause_22 ⟨Nat.le_of_ble_eq_true rfl, Nat.le_of_ble_eq_true rfl⟩ (fun H locs hP hD hS => ?_)
    refine W.eq (g2 := F0 m 25 ls [.int r4]) rfl ?_
    refine lv_if_eq (tgt := 34) hx hb dX4_readClause_25 (by decide) (fun c6 => ?_) (fun c6 => ?_)
    · have hf := if_p c6 hf
      refine lv_aload_n hx hb dX4_readClause_34 rfl (lv_at hl 0 rfl) ?_
      refine va_ldcS hx hb hown (hE.2.2.1 2 (by decide)) dX4_readClause_35 ?_
      obtain ⟨r7, hc8, hf⟩ := bd_inv hf
      refine xcV (As := [.ref (adK 2)]) (rest := []) (ws' := [(ta, .inr (4, [.ref tb, .int tln, .int tcl, .int tts, .int tte, .int tam, .ref tc])), (tb, .inl (cC, 200, .inl tlt)), (tc, .inl (cI, 4, .inl tsv)), (fa, .inr (0, [.int fst, .ref fb, .int fwy, .ref fc, .int fmk, .int fwt])), (fb, .inl (cI, 24, .inl fvl)), (fc, .inl (cI, 84, .inl fpt))]) ⟨hx, hb, hml, hown, hts⟩ (c_X4_isWord l D B adK adV cC cF cI cZ cM cS ta tb tln tcl tts tte tam tc tlt tsv 2 (by decide) r7 hc8) (cwV 1 hts gX4_readClause_X4_isWord rfl rfl rfl (by decide +kernel) ⟨Nat.le_of_ble_eq_true rfl, Nat.le_of_ble_eq_true rfl⟩) (va_recv hK hP (ci := 4) (q0 := 0) rfl rfl) hK hP hD hS hB hE [0, 1, 2] rfl rfl rfl rfl rfl hl.1 rfl (Nat.le_of_ble_eq_true rfl) dX4_readClause_37 ⟨Nat.le_of_ble_eq_true rfl, Nat.le_of_ble_eq_true rfl⟩ (fun H locs hP hD hS => ?_)
      refine W.eq (g2 := F0 m 40 ls [.int r7]) rfl ?_
      refine lv_if_eq (tgt := 65) hx hb dX4_readClause_40 (by decide) (fun c9 => ?_) (fun c9 => ?_)
      · have hf := if_p c9 hf
        refine lv_aload_n hx hb dX4_readClause_65 rfl (lv_at hl 0 rfl) ?_
        refine va_ldcS hx hb hown (hE.2.2.1 7 (by decide)) dX4_readClause_66 ?_
        obtain ⟨r10, hc11, hf⟩ := bd_inv hf
        refine xcV (As := [.ref (adK 7)]) (rest := []) (ws' := [(ta, .inr (4, [.ref tb, .int tln, .int tcl, .int tts, .int tte, .int tam, .ref tc])), (tb, .inl (cC, 200, .inl tlt)), (tc, .inl (cI, 4, .inl tsv)), (fa, .inr (0, [.int fst, .ref fb, .int fwy, .ref fc, .int fmk, .int fwt])), (fb, .inl (cI, 24, .inl fvl)), (fc, .inl (cI, 84, .inl fpt))]) ⟨hx, hb, hml, hown, hts⟩ (c_X4_isWord l D B adK adV cC cF cI cZ cM cS ta tb tln tcl tts tte tam tc tlt tsv 7 (by decide) r10 hc11) (cwV 1 hts gX4_readClause_X4_isWord rfl rfl rfl (by decide +kernel) ⟨Nat.le_of_ble_eq_true rfl, Nat.le_of_ble_eq_true rfl⟩) (va_recv hK hP (ci := 4) (q0 := 0) rfl rfl) hK hP hD hS hB hE [0, 1, 2] rfl rfl rfl rfl rfl hl.1 rfl (Nat.le_of_ble_eq_true rfl) dX4_readClause_68 ⟨Nat.le_of_ble_eq_true rfl, Nat.le_of_ble_eq_true rfl⟩ (fun H locs hP hD hS => ?_)
        refine W.eq (g2 := F0 m 71 ls [.int r10]) rfl ?_
        refine lv_if_eq (tgt := 80) hx hb dX4_readClause_71 (by decide) (fun c12 => ?_) (fun c12 => ?_)
        · have hf := if_p c12 hf
          refine lv_aload_n hx hb dX4_readClause_80 rfl (lv_at hl 0 rfl) ?_
          refine va_ldcS hx hb hown (hE.2.2.1 8 (by decide)) dX4_readClause_81 ?_
          obtain ⟨r13, hc14, hf⟩ := bd_inv hf
          refine xcV (As := [.ref (adK 8)]) (rest := []) (ws' := [(ta, .inr (4, [.ref tb, .int tln, .int tcl, .int tts, .int tte, .int tam, .ref tc])), (tb, .inl (cC, 200, .inl tlt)), (tc, .inl (cI, 4, .inl tsv)), (fa, .inr (0, [.int fst, .ref fb, .int fwy, .ref fc, .int fmk, .int fwt])), (fb, .inl (cI, 24, .inl fvl)), (fc, .inl (cI, 84, .inl fpt))]) ⟨hx, hb, hml, hown, hts⟩ (c_X4_isWord l D B adK adV cC cF cI cZ cM cS ta tb tln tcl tts tte tam tc tlt tsv 8 (by decide) r13 hc14) (cwV 1 hts gX4_readClause_X4_isWord rfl rfl rfl (by decide +kernel) ⟨Nat.le_of_ble_eq_true rfl, Nat.le_of_ble_eq_true rfl⟩) (va_recv hK hP (ci := 4) (q0 := 0) rfl rfl) hK hP hD hS hB hE [0, 1, 2] rfl rfl rfl rfl rfl hl.1 rfl (Nat.le_of_ble_eq_true rfl) dX4_readClause_83 ⟨Nat.le_of_ble_eq_true rfl, Nat.le_of_ble_eq_true rfl⟩ (fun H locs hP hD hS => ?_)
          refine W.eq (g2 := F0 m 86 ls [.int r13]) rfl ?_
          refine lv_if_eq (tgt := 101) hx hb dX4_readClause_86 (by decide) (fun c15 => ?_) (fun c15 => ?_)
          · have hf := if_p c15 hf
            refine lv_iconst (v := 0) hx hb dX4_readClause_101 (by decide) ?_
            have h1 := Option.some.inj hf
            subst h1
            rw [hQ]
            exact W.zret (v := 0) (ty := .boolean) hx hb hr rfl (fun t ht hW => qEnd hP hS ht) hS.2.2 dX4_readClause_102
          · have hf := if_n c15 hf
            refine lv_aload_n hx hb dX4_readClause_89 rfl (lv_at hl 0 rfl) ?_
            refine lv_aload_n hx hb dX4_readClause_90 rfl (lv_at hl 1 rfl) ?_
            obtain ⟨⟨r16, o17, o18, o19, o20, o21⟩, hc22, hf⟩ := bd_inv hf
            refine xcV (As := [.ref fa]) (rest := []) (ws' := [(ta, .inr (4, [.ref tb, .int tln, .int tcl, .int o17, .int o18, .int o19, .ref tc])), (tb, .inl (cC, 200, .inl tlt)), (tc, .inl (cI, 4, .inl tsv)), (fa, .inr (0, [.int fst, .ref fb, .int fwy, .ref fc, .int o20, .int o21])), (fb, .inl (cI, 24, .inl fvl)), (fc, .inl (cI, 84, .inl fpt))]) ⟨hx, hb, hml, hown, hts⟩ (c_X4_readMask l D B adK adV cC cF cI cZ cM cS ta tb tln tcl tts tte tam tc tlt tsv fa fst fb fwy fc fmk fwt fvl fpt  (r16, o17, o18, o19, o20, o21) hc22) (cwV 1 hts gX4_readClause_X4_readMask rfl rfl rfl (by decide +kernel) ⟨Nat.le_of_ble_eq_true rfl, Nat.le_of_ble_eq_true rfl⟩) (va_recv hK hP (ci := 4) (q0 := 0) rfl rfl) hK hP hD hS hB hE [0, 1, 2, 3, 4, 5] rfl rfl rfl rfl rfl hl.1 rfl (Nat.le_of_ble_eq_true rfl) dX4_readClause_91 ⟨Nat.le_of_ble_eq_true rfl, Nat.le_of_ble_eq_true rfl⟩ (fun H locs hP hD hS => ?_)
            refine W.eq (g2 := F0 m 94 ls [.int r16]) rfl ?_
            refine lv_if_eq (tgt := 101) hx hb dX4_readClause_94 (by decide) (fun c23 => ?_) (fun c23 => ?_)
            · have hf := if_p c23 hf
              refine lv_iconst (v := 0) hx hb dX4_readClause_101 (by decide) ?_
              have h1 := Option.some.inj hf
              subst h1
              rw [hQ]
              exact W.zret (v := 0) (ty := .boolean) hx hb hr rfl (fun t ht hW => qEnd hP hS ht) hS.2.2 dX4_readClause_102
            · have hf := if_n c23 hf
              refine lv_iconst (v := 1) hx hb dX4_readClause_97 (by decide) ?_
              refine lv_goto (tgt := 102) hx hb dX4_readClause_98 (by decide) ?_
              have h1 := Option.some.inj hf
              subst h1
              rw [hQ]
              exact W.zret (v := 1) (ty := .boolean) hx hb hr rfl (fun t ht hW => qEnd hP hS ht) hS.2.2 dX4_readClause_102
        · have hf := if_n c12 hf
          refine lv_aload_n hx hb dX4_readClause_74 rfl (lv_at hl 0 rfl) ?_
          refine lv_aload_n hx hb dX4_readClause_75 rfl (lv_at hl 1 rfl) ?_
          obtain ⟨⟨r24, o25, o26, o27⟩, hc28, hf⟩ := bd_inv hf
          refine xcV (As := [.ref fa]) (rest := []) (ws' := [(ta, .inr (4, [.ref tb, .int tln, .int tcl, .int o26, .int o27, .int tam, .ref tc])), (tb, .inl (cC, 200, .inl tlt)), (tc, .inl (cI, 4, .inl tsv)), (fa, .inr (0, [.int fst, .ref fb, .int fwy, .ref fc, .int fmk, .int fwt])), (fb, .inl (cI, 24, .inl fvl)), (fc, .inl (cI, 84, .inl o25))]) ⟨hx, hb, hml, hown, hts⟩ (c_X4_readBreaking l D B adK adV cC cF cI cZ cM cS ta tb tln tcl tts tte tam tc tlt tsv fa fst fb fwy fc fmk fwt fvl fpt  (r24, o25, o26, o27) hc28) (cwV 1 hts gX4_readClause_X4_readBreaking rfl rfl rfl (by decide +kernel) ⟨Nat.le_of_ble_eq_true rfl, Nat.le_of_ble_eq_true rfl⟩) (va_recv hK hP (ci := 4) (q0 := 0) rfl rfl) hK hP hD hS hB hE [0, 1, 2, 3, 4, 5] rfl rfl rfl rfl rfl hl.1 rfl (Nat.le_of_ble_eq_true rfl) dX4_readClause_76 ⟨Nat.le_of_ble_eq_true rfl, Nat.le_of_ble_eq_true rfl⟩ (fun H locs hP hD hS => ?_)
          refine W.eq (g2 := F0 m 79 ls [.int r24]) rfl ?_
          obtain ⟨g29, hf⟩ := gd_inv hf
          have h1 := Option.some.inj hf
          subst h1
          rw [hQ]
          exact W.zret (v := r24) (ty := .boolean) hx hb hr (zok_n g29) (fun t ht hW => qEnd hP hS ht) hS.2.2 dX4_readClause_79
      · have hf := if_n c9 hf
        refine lv_aload_n hx hb dX4_readClause_43 rfl (lv_at hl 0 rfl) ?_
        refine lv_aload_n hx hb dX4_readClause_44 rfl (lv_at hl 1 rfl) ?_
        obtain ⟨⟨r30, o31, o32, o33, o34⟩, hc35, hf⟩ := bd_inv hf
        refine xcV (As := [.ref fa]) (rest := []) (ws' := [(ta, .inr (4, [.ref tb, .int tln, .int tcl, .int o32, .int o33, .int o34, .ref tc])), (tb, .inl (cC, 200, .inl tlt)), (tc, .inl (cI, 4, .inl tsv)), (fa, .inr (0, [.int fst, .ref fb, .int fwy, .ref fc, .int fmk, .int fwt])), (fb, .inl (cI, 24, .inl fvl)), (fc, .inl (cI, 84, .inl o31))]) ⟨hx, hb, hml, hown, hts⟩ (c_X4_readWay l D B adK adV cC cF cI cZ cM cS ta tb tln tcl tts tte tam tc tlt tsv fa fst fb fwy fc fmk fwt fvl fpt  (r30, o31, o32, o33, o34) hc35) (cwV 1 hts gX4_readClause_X4_readWay rfl rfl rfl (by decide +kernel) ⟨Nat.le_of_ble_eq_true rfl, Nat.le_of_ble_eq_true rfl⟩) (va_recv hK hP (ci := 4) (q0 := 0) rfl rfl) hK hP hD hS hB hE [0, 1, 2, 3, 4, 5] rfl rfl rfl rfl rfl hl.1 rfl (Nat.le_of_ble_eq_true rfl) dX4_readClause_45 ⟨Nat.le_of_ble_eq_true rfl, Nat.le_of_ble_eq_true rfl⟩ (fun H locs hP hD hS => ?_)
        refine W.eq (g2 := F0 m 48 ls [.int r30]) rfl ?_
        refine lv_if_eq (tgt := 63) hx hb dX4_readClause_48 (by decide) (fun c36 => ?_) (fun c36 => ?_)
        · have hf := if_p c36 hf
          refine lv_iconst (v := 0) hx hb dX4_readClause_63 (by decide) ?_
          have h1 := Option.some.inj hf
          subst h1
          rw [hQ]
          exact W.zret (v := 0) (ty := .boolean) hx hb hr rfl (fun t ht hW => qEnd hP hS ht) hS.2.2 dX4_readClause_64
        · have hf := if_n c36 hf
          refine lv_aload_n hx hb dX4_readClause_51 rfl (lv_at hl 0 rfl) ?_
          refine lv_aload_n hx hb dX4_readClause_52 rfl (lv_at hl 1 rfl) ?_
          obtain ⟨⟨r37, o38, o39, o40, o41, o42⟩, hc43, hf⟩ := bd_inv hf
          refine xcV (As := [.ref fa]) (rest := []) (ws' := [(ta, .inr (4, [.ref tb, .int tln, .int tcl, .int o39, .int o40, .int o41, .ref tc])), (tb, .inl (cC, 200, .inl tlt)), (tc, .inl (cI, 4, .inl tsv)), (fa, .inr (0, [.int fst, .ref fb, .int o42, .ref fc, .int fmk, .int fwt])), (fb, .inl (cI, 24, .inl fvl)), (fc, .inl (cI, 84, .inl o38))]) ⟨hx, hb, hml, hown, hts⟩ (c_X4_readCondition l D B adK adV cC cF cI cZ cM cS ta tb tln tcl o32 o33 o34 tc tlt tsv fa fst fb fwy fc fmk fwt fvl o31  (r37, o38, o39, o40, o41, o42) hc43) (cwV 1 hts gX4_readClause_X4_readCondition rfl rfl rfl (by decide +kernel) ⟨Nat.le_of_ble_eq_true rfl, Nat.le_of_ble_eq_true rfl⟩) (va_recv hK hP (ci := 4) (q0 := 0) rfl rfl) hK hP hD hS hB hE [0, 1, 2, 3, 4, 5] rfl rfl rfl rfl rfl hl.1 rfl (Nat.le_of_ble_eq_true rfl) dX4_readClause_53 ⟨Nat.le_of_ble_eq_true rfl, Nat.le_of_ble_eq_true rfl⟩ (fun H locs hP hD hS => ?_)
          refine W.eq (g2 := F0 m 56 ls [.int r37]) rfl ?_
          refine lv_if_eq (tgt := 63) hx hb dX4_readClause_56 (by decide) (fun c44 => ?_) (fun c44 => ?_)
          · have hf := if_p c44 hf
            refine lv_iconst (v := 0) hx hb dX4_readClause_63 (by decide) ?_
            have h1 := Option.some.inj hf
            subst h1
            rw [hQ]
            exact W.zret (v := 0) (ty := .boolean) hx hb hr rfl (fun t ht hW => qEnd hP hS ht) hS.2.2 dX4_readClause_64
          · have hf := if_n c44 hf
            refine lv_iconst (v := 1) hx hb dX4_readClause_59 (by decide) ?_
            refine lv_goto (tgt := 64) hx hb dX4_readClause_60 (by decide) ?_
            have h1 := Option.some.inj hf
            subst h1
            rw [hQ]
            exact W.zret (v := 1) (ty := .boolean) hx hb hr rfl (fun t ht hW => qEnd hP hS ht) hS.2.2 dX4_readClause_64
    · have hf := if_n c6 hf
      refine lv_aload_n hx hb dX4_readClause_28 rfl (lv_at hl 0 rfl) ?_
      refine lv_aload_n hx hb dX4_readClause_29 rfl (lv_at hl 1 rfl) ?_
      obtain ⟨⟨r45, o46, o47, o48, o49, o50, o51⟩, hc52, hf⟩ := bd_inv hf
      refine xcV (As := [.ref fa]) (rest := []) (ws' := [(ta, .inr (4, [.ref tb, .int tln, .int tcl, .int o48, .int o49, .int o50, .ref tc])), (tb, .inl (cC, 200, .inl tlt)), (tc, .inl (cI, 4, .inl o46)), (fa, .inr (0, [.int o51, .ref fb, .int fwy, .ref fc, .int fmk, .int fwt])), (fb, .inl (cI, 24, .inl o47)), (fc, .inl (cI, 84, .inl fpt))]) ⟨hx, hb, hml, hown, hts⟩ (c_X4_readState l D B adK adV cC cF cI cZ cM cS ta tb tln tcl tts tte tam tc tlt tsv fa fst fb fwy fc fmk fwt fvl fpt  (r45, o46, o47, o48, o49, o50, o51) hc52) (cwV 1 hts gX4_readClause_X4_readState rfl rfl rfl (by decide +kernel) ⟨Nat.le_of_ble_eq_true rfl, Nat.le_of_ble_eq_true rfl⟩) (va_recv hK hP (ci := 4) (q0 := 0) rfl rfl) hK hP hD hS hB hE [0, 1, 2, 3, 4, 5] rfl rfl rfl rfl rfl hl.1 rfl (Nat.le_of_ble_eq_true rfl) dX4_readClause_30 ⟨Nat.le_of_ble_eq_true rfl, Nat.le_of_ble_eq_true rfl⟩ (fun H locs hP hD hS => ?_)
      refine W.eq (g2 := F0 m 33 ls [.int r45]) rfl ?_
      obtain ⟨g53, hf⟩ := gd_inv hf
      have h1 := Option.some.inj hf
      subst h1
      rw [hQ]
      exact W.zret (v := r45) (ty := .boolean) hx hb hr (zok_n g53) (fun t ht hW => qEnd hP hS ht) hS.2.2 dX4_readClause_33
  · have hf := if_n c3 hf
    refine lv_aload_n hx hb dX4_readClause_9 rfl (lv_at hl 1 rfl) ?_
    obtain ⟨⟨o54, o55, o56, o57⟩, hc58, hf⟩ := bd_inv hf
    refine xcV (As := []) (rest := []) (ws' := [(ta, .inr (4, [.ref tb, .int tln, .int tcl, .int tts, .int tte, .int tam, .ref tc])), (tb, .inl (cC, 200, .inl tlt)), (tc, .inl (cI, 4, .inl tsv)), (fa, .inr (0, [.int o54, .ref fb, .int o55, .ref fc, .int o56, .int o57])), (fb, .inl (cI, 24, .inl fvl)), (fc, .inl (cI, 84, .inl fpt))]) ⟨hx, hb, hml, hown, hts⟩ (c_X0_reset l D B adK adV cC cF cI cZ cM cS fa fst fb fwy fc fmk fwt fvl fpt  (o54, o55, o56, o57) hc58) (cwV 0 hts gX4_readClause_X0_reset rfl rfl rfl (by decide +kernel) ⟨Nat.le_of_ble_eq_true rfl, Nat.le_of_ble_eq_true rfl⟩) (va_recv hK hP (ci := 0) (q0 := 3) rfl rfl) hK hP hD hS hB hE [3, 4, 5] rfl rfl rfl rfl rfl hl.1 rfl (Nat.le_of_ble_eq_true rfl) dX4_readClause_10 ⟨Nat.le_of_ble_eq_true rfl, Nat.le_of_ble_eq_true rfl⟩ (fun H locs hP hD hS => ?_)
    refine W.eq (g2 := F0 m 13 ls []) rfl ?_
    refine lv_aload_n hx hb dX4_readClause_13 rfl (lv_at hl 0 rfl) ?_
    obtain ⟨⟨o59, o60⟩, hc61, hf⟩ := bd_inv hf
    refine xcV (As := []) (rest := []) (ws' := [(ta, .inr (4, [.ref tb, .int tln, .int tcl, .int o59, .int o60, .int tam, .ref tc])), (tb, .inl (cC, 200, .inl tlt)), (tc, .inl (cI, 4, .inl tsv)), (fa, .inr (0, [.int o54, .ref fb, .int o55, .ref fc, .int o56, .int o57])), (fb, .inl (cI, 24, .inl fvl)), (fc, .inl (cI, 84, .inl fpt))]) ⟨hx, hb, hml, hown, hts⟩ (c_X4_advance l D B adK adV cC cF cI cZ cM cS ta tb tln tcl tts tte tam tc tlt tsv  (o59, o60) hc61) (cwV 0 hts gX4_readClause_X4_advance rfl rfl rfl (by decide +kernel) ⟨Nat.le_of_ble_eq_true rfl, Nat.le_of_ble_eq_true rfl⟩) (va_recv hK hP (ci := 4) (q0 := 0) rfl rfl) hK hP hD hS hB hE [0, 1, 2] rfl rfl rfl rfl rfl hl.1 rfl (Nat.le_of_ble_eq_true rfl) dX4_readClause_14 ⟨Nat.le_of_ble_eq_true rfl, Nat.le_of_ble_eq_true rfl⟩ (fun H locs hP hD hS => ?_)
    refine W.eq (g2 := F0 m 17 ls []) rfl ?_
    refine lv_iconst (v := 1) hx hb dX4_readClause_17 (by decide) ?_
    have h1 := Option.some.inj hf
    subst h1
    rw [hQ]
    exact W.zret (v := 1) (ty := .boolean) hx hb hr rfl (fun t ht hW => qEnd hP hS ht) hS.2.2 dX4_readClause_18
set_option maxRecDepth 100000 in
set_option maxHeartbeats 4000000 in
theorem c_X4_readOnto (l : Launch) (D : va_G) (B : Nat) (adK adV : Nat → Nat) (cC cF cI cZ cM cS : ClassId) (ta : Nat) (tb : Nat) (tln : Int32) (tcl : Int32) (tts : Int32) (tte : Int32) (tam : Int32) (tc : Nat) (tlt : Nat → Int32) (tsv : Nat → Int32) (fa : Nat) (fst : Int32) (fb : Nat) (fwy : Int32) (fc : Nat) (fmk : Int32) (fwt : Int32) (fvl : Nat → Int32) (fpt : Nat → Int32) (zz : Int32 × (Nat → Int32) × (Nat → Int32) × (Nat → Int32) × Int32 × Int32 × Int32 × Int32 × Int32 × Int32 × Int32 × Int32) (hf : f_X4_readOnto tln tam tlt tsv fst fwy fmk fwt fvl fpt = some zz) : Ct l yX4_readOnto wsX4_readOnto { frames := 8, cells := 0, slots := 0, locals := 173 } D B adK adV (tysX cC cF cI cZ cM cS) [.ref ta, .ref fa] [(ta, .inr (4, [.ref tb, .int tln, .int tcl, .int tts, .int tte, .int tam, .ref tc])), (tb, .inl (cC, 200, .inl tlt)), (tc, .inl (cI, 4, .inl tsv)), (fa, .inr (0, [.int fst, .ref fb, .int fwy, .ref fc, .int fmk, .int fwt])), (fb, .inl (cI, 24, .inl fvl)), (fc, .inl (cI, 84, .inl fpt))] [(ta, .inr (4, [.ref tb, .int tln, .int zz.2.2.2.2.1, .int zz.2.2.2.2.2.1, .int zz.2.2.2.2.2.2.1, .int zz.2.2.2.2.2.2.2.1, .ref tc])), (tb, .inl (cC, 200, .inl tlt)), (tc, .inl (cI, 4, .inl zz.2.1)), (fa, .inr (0, [.int zz.2.2.2.2.2.2.2.2.1, .ref fb, .int zz.2.2.2.2.2.2.2.2.2.1, .ref fc, .int zz.2.2.2.2.2.2.2.2.2.2.1, .int zz.2.2.2.2.2.2.2.2.2.2.2])), (fb, .inl (cI, 24, .inl zz.2.2.1)), (fc, .inl (cI, 84, .inl zz.2.2.2.1))] (some (.int zz.1)) := by
  refine Ct.ofW (cc := cX4_readOnto) (maxL := 2) (ret := (some .int)) (by decide) rfl (Nat.le_of_ble_eq_true rfl) ?_
  intro p e s m args below meth c hx hb hr hml hts hown hlocks hnm hK hE A Q hQ hB H locs ls hP hD hS hl
  have hl : lv_has ls 2 [(0, .ref ta), (1, .ref fa)] := hl
  have w0 : ∀ w ∈ u_ws RX4 TX4 7, w ∈ wsX4_readOnto := by decide +kernel
  have w1 := hts (.fieldLink RX4 19 "MotionStates$Text" "tokenEnd" "I") (by decide +kernel)
  have w2 := hts (.fieldLink RX4 26 "MotionStates$Text" "clauses" "I") (by decide +kernel)
  have w3 := hts (.fieldLink RX4 33 "MotionStates$Text" "tokenStart" "I") (by decide +kernel)
  have L14 : ∀ (n : Nat) (tcl_14 : Int32) (tts_14 : Int32) (tte_14 : Int32) (tam_14 : Int32) (tsv_14 : Nat → Int32) (fst_14 : Int32) (fwy_14 : Int32) (fmk_14 : Int32) (fwt_14 : Int32) (fvl_14 : Nat → Int32) (fpt_14 : Nat → Int32), f_X4_readOnto_L14 tln tlt n tcl_14 tts_14 tte_14 tam_14 tsv_14 fst_14 fwy_14 fmk_14 fwt_14 fvl_14 fpt_14 = some zz → ∀ (H : Heap) (locs : List Loc) (ls : Array Slot), va_P D vwCl [(ta, .inr (4, [.ref tb, .int tln, .int tcl_14, .int tts_14, .int tte_14, .int tam_14, .ref tc])), (tb, .inl (cC, 200, .inl tlt)), (tc, .inl (cI, 4, .inl tsv_14)), (fa, .inr (0, [.int fst_14, .ref fb, .int fwy_14, .ref fc, .int fmk_14, .int fwt_14])), (fb, .inl (cI, 24, .inl fvl_14)), (fc, .inl (cI, 84, .inl fpt_14))] H → va_D A [(ta, .inr (4, [.ref tb, .int tln, .int tcl_14, .int tts_14, .int tte_14, .int tam_14, .ref tc])), (tb, .inl (cC, 200, .inl tlt)), (tc, .inl (cI, 4, .inl tsv_14)), (fa, .inr (0, [.int fst_14, .ref fb, .int fwy_14, .ref fc, .int fmk_14, .int fwt_14])), (fb, .inl (cI, 24, .inl fvl_14)), (fc, .inl (cI, 84, .inl fpt_14))] → va_S A s.heap H locs → lv_has ls 2 [(0, .ref ta), (1, .ref fa)] → W p l e { frames := 8, cells := 0, slots := 0, locals := 173 } s m args below meth c H locs 0 0 Q (F0 m 14 ls []) := by
    intro n
    induction n with
    | zero => intro tcl_14 tts_14 tte_14 tam_14 tsv_14 fst_14 fwy_14 fmk_14 fwt_14 fvl_14 fpt_14 hf; exact absurd hf (by simp [f_X4_readOnto_L14])
    | succ n ih =>
      intro tcl_14 tts_14 tte_14 tam_14 tsv_14 fst_14 fwy_14 fmk_14 fwt_14 fvl_14 fpt_14 hf H locs ls hP hD hS hl
      rw [f_X4_readOnto_L14] at hf
      refine lv_aload_n hx hb dX4_readOnto_14 rfl (lv_at hl 0 rfl) ?_
      refine va_get (D := D) (ci := 4) (v := .int tcl_14) (C := RX4) (T := TX4) (N := 7) hx hb hts w0 hown hK hP 0 rfl rfl 2 (by decide) w2 (fun _ h9 => h9) rfl dX4_readOnto_15 ?_
      refine lv_bipush (v := 24) hx hb dX4_readOnto_18 (by decide) ?_
      refine lv_icmp_gt (tgt := 85) hx hb dX4_readOnto_20 (by decide) (fun c4 => ?_) (fun c4 => ?_)
      · have hf := if_p c4 hf
        refine lv_aload_n hx hb dX4_readOnto_85 rfl (lv_at hl 0 rfl) ?_
        refine va_get (D := D) (ci := 4) (v := .int tts_14) (C := RX4) (T := TX4) (N := 7) hx hb hts w0 hown hK hP 0 rfl rfl 3 (by decide) w3 (fun _ h9 => h9) rfl dX4_readOnto_86 ?_
        have h1 := Option.some.inj hf
        subst h1
        rw [hQ]
        exact W.iret (v := tts_14) hx hb hr (fun t ht hW => qEnd hP hS ht) hS.2.2 dX4_readOnto_89
      · have hf := if_n c4 hf
        refine lv_aload_n hx hb dX4_readOnto_23 rfl (lv_at hl 0 rfl) ?_
        refine lv_aload_n hx hb dX4_readOnto_24 rfl (lv_at hl 1 rfl) ?_
        obtain ⟨⟨r5, o6, o7, o8, o9, o10, o11, o12, o13, o14, o15⟩, hc16, hf⟩ := bd_inv hf
        refine xcV (As := [.ref fa]) (rest := []) (ws' := [(ta, .inr (4, [.ref tb, .int tln, .int tcl_14, .int o9, .int o10, .int o11, .ref tc])), (tb, .inl (cC, 200, .inl tlt)), (tc, .inl (cI, 4, .inl o6)), (fa, .inr (0, [.int o12, .ref fb, .int o13, .ref fc, .int o14, .int o15])), (fb, .inl (cI, 24, .inl o7)), (fc, .inl (cI, 84, .inl o8))]) ⟨hx, hb, hml, hown, hts⟩ (c_X4_readClause l D B adK adV cC cF cI cZ cM cS ta tb tln tcl_14 tts_14 tte_14 tam_14 tc tlt tsv_14 fa fst_14 fb fwy_14 fc fmk_14 fwt_14 fvl_14 fpt_14  (r5, o6, o7, o8, o9, o10, o11, o12, o13, o14, o15) hc16) (cwV 1 hts gX4_readOnto_X4_readClause rfl rfl rfl (by decide +kernel) ⟨Nat.le_of_ble_eq_true rfl, Nat.le_of_ble_eq_true rfl⟩) (va_recv hK hP (ci := 4) (q0 := 0) rfl rfl) hK hP hD hS hB hE [0, 1, 2, 3, 4, 5] rfl rfl rfl rfl rfl hl.1 rfl (Nat.le_of_ble_eq_true rfl) dX4_readOnto_25 ⟨Nat.le_of_ble_eq_true rfl, Nat.le_of_ble_eq_true rfl⟩ (fun H locs hP hD hS => ?_)
        refine W.eq (g2 := F0 m 28 ls [.int r5]) rfl ?_
        refine lv_if_ne (tgt := 36) hx hb dX4_readOnto_28 (by decide) (fun c17 => ?_) (fun c17 => ?_)
        · have hf := if_n c17 hf
          refine lv_aload_n hx hb dX4_readOnto_36 rfl (lv_at hl 0 rfl) ?_
          obtain ⟨r18, hc19, hf⟩ := bd_inv hf
          refine xcV (As := []) (rest := []) (ws' := [(ta, .inr (4, [.ref tb, .int tln, .int tcl_14, .int o9, .int o10, .int o11, .ref tc])), (tb, .inl (cC, 200, .inl tlt)), (tc, .inl (cI, 4, .inl o6)), (fa, .inr (0, [.int o12, .ref fb, .int o13, .ref fc, .int o14, .int o15])), (fb, .inl (cI, 24, .inl o7)), (fc, .inl (cI, 84, .inl o8))]) ⟨hx, hb, hml, hown, hts⟩ (c_X4_isAtEnd l D B adK adV cC cF cI cZ cM cS ta tb tln tcl_14 o9 o10 o11 tc tlt o6  r18 hc19) (cwV 0 hts gX4_readOnto_X4_isAtEnd rfl rfl rfl (by decide +kernel) ⟨Nat.le_of_ble_eq_true rfl, Nat.le_of_ble_eq_true rfl⟩) (va_recv hK hP (ci := 4) (q0 := 0) rfl rfl) hK hP hD hS hB hE [0, 1, 2] rfl rfl rfl rfl rfl hl.1 rfl (Nat.le_of_ble_eq_true rfl) dX4_readOnto_37 ⟨Nat.le_of_ble_eq_true rfl, Nat.le_of_ble_eq_true rfl⟩ (fun H locs hP hD hS => ?_)
          refine W.eq (g2 := F0 m 40 ls [.int r18]) rfl ?_
          refine lv_if_eq (tgt := 45) hx hb dX4_readOnto_40 (by decide) (fun c20 => ?_) (fun c20 => ?_)
          · have hf := if_p c20 hf
            refine lv_aload_n hx hb dX4_readOnto_45 rfl (lv_at hl 0 rfl) ?_
            refine va_get (D := D) (ci := 4) (v := .int tcl_14) (C := RX4) (T := TX4) (N := 7) hx hb hts w0 hown hK hP 0 rfl rfl 2 (by decide) w2 (fun _ h9 => h9) rfl dX4_readOnto_46 ?_
            refine lv_bipush (v := 24) hx hb dX4_readOnto_49 (by decide) ?_
            refine lv_icmp_eq (tgt := 63) hx hb dX4_readOnto_51 (by decide) (fun c21 => ?_) (fun c21 => ?_)
            · have hf := if_p c21 hf
              refine lv_aload_n hx hb dX4_readOnto_63 rfl (lv_at hl 0 rfl) ?_
              refine va_get (D := D) (ci := 4) (v := .int o9) (C := RX4) (T := TX4) (N := 7) hx hb hts w0 hown hK hP 0 rfl rfl 3 (by decide) w3 (fun _ h9 => h9) rfl dX4_readOnto_64 ?_
              have h1 := Option.some.inj hf
              subst h1
              rw [hQ]
              exact W.iret (v := o9) hx hb hr (fun t ht hW => qEnd hP hS ht) hS.2.2 dX4_readOnto_67
            · have hf := if_n c21 hf
              refine lv_aload_n hx hb dX4_readOnto_54 rfl (lv_at hl 0 rfl) ?_
              refine lv_bipush (v := 59) hx hb dX4_readOnto_55 (by decide) ?_
              obtain ⟨r22, hc23, hf⟩ := bd_inv hf
              refine xcV (As := [.int 59]) (rest := []) (ws' := [(ta, .inr (4, [.ref tb, .int tln, .int tcl_14, .int o9, .int o10, .int o11, .ref tc])), (tb, .inl (cC, 200, .inl tlt)), (tc, .inl (cI, 4, .inl o6)), (fa, .inr (0, [.int o12, .ref fb, .int o13, .ref fc, .int o14, .int o15])), (fb, .inl (cI, 24, .inl o7)), (fc, .inl (cI, 84, .inl o8))]) ⟨hx, hb, hml, hown, hts⟩ (c_X4_isSign l D B adK adV cC cF cI cZ cM cS ta tb tln tcl_14 o9 o10 o11 tc tlt o6 59  r22 hc23) (cwV 1 hts gX4_readOnto_X4_isSign rfl rfl rfl (by decide +kernel) ⟨Nat.le_of_ble_eq_true rfl, Nat.le_of_ble_eq_true rfl⟩) (va_recv hK hP (ci := 4) (q0 := 0) rfl rfl) hK hP hD hS hB hE [0, 1, 2] rfl rfl rfl rfl rfl hl.1 rfl (Nat.le_of_ble_eq_true rfl) dX4_readOnto_57 ⟨Nat.le_of_ble_eq_true rfl, Nat.le_of_ble_eq_true rfl⟩ (fun H locs hP hD hS => ?_)
              refine W.eq (g2 := F0 m 60 ls [.int r22]) rfl ?_
              refine lv_if_ne (tgt := 68) hx hb dX4_readOnto_60 (by decide) (fun c24 => ?_) (fun c24 => ?_)
              · have hf := if_n c24 hf
                refine lv_aload_n hx hb dX4_readOnto_68 rfl (lv_at hl 0 rfl) ?_
                obtain ⟨⟨o25, o26⟩, hc27, hf⟩ := bd_inv hf
                refine xcV (As := []) (rest := []) (ws' := [(ta, .inr (4, [.ref tb, .int tln, .int tcl_14, .int o25, .int o26, .int o11, .ref tc])), (tb, .inl (cC, 200, .inl tlt)), (tc, .inl (cI, 4, .inl o6)), (fa, .inr (0, [.int o12, .ref fb, .int o13, .ref fc, .int o14, .int o15])), (fb, .inl (cI, 24, .inl o7)), (fc, .inl (cI, 84, .inl o8))]) ⟨hx, hb, hml, hown, hts⟩ (c_X4_advance l D B adK adV cC cF cI cZ cM cS ta tb tln tcl_14 o9 o10 o11 tc tlt o6  (o25, o26) hc27) (cwV 0 hts gX4_readOnto_X4_advance rfl rfl rfl (by decide +kernel) ⟨Nat.le_of_ble_eq_true rfl, Nat.le_of_ble_eq_true rfl⟩) (va_recv hK hP (ci := 4) (q0 := 0) rfl rfl) hK hP hD hS hB hE [0, 1, 2] rfl rfl rfl rfl rfl hl.1 rfl (Nat.le_of_ble_eq_true rfl) dX4_readOnto_69 ⟨Nat.le_of_ble_eq_true rfl, Nat.le_of_ble_eq_true rfl⟩ (fun H locs hP hD hS => ?_)
                refine W.eq (g2 := F0 m 72 ls []) rfl ?_
                refine lv_aload_n hx hb dX4_readOnto_72 rfl (lv_at hl 0 rfl) ?_
                refine lv_dup hx hb dX4_readOnto_73 rfl ?_
                refine va_get (D := D) (ci := 4) (v := .int tcl_14) (C := RX4) (T := TX4) (N := 7) hx hb hts w0 hown hK hP 0 rfl rfl 2 (by decide) w2 (fun _ h9 => h9) rfl dX4_readOnto_74 ?_
                refine lv_iconst (v := 1) hx hb dX4_readOnto_77 (by decide) ?_
                refine lv_iadd hx hb dX4_readOnto_78 ?_
                refine va_put (D := D) (ci := 4) (v := .int (tcl_14 + 1)) (ty := .int) (C := RX4) (T := TX4) (N := 7) hx hb hts w0 tyX4 tyX4_ok nmX4 hown hK hP hD hS 0 rfl rfl 2 (by decide) w2 (fun _ h9 => h9) rfl (by decide +kernel) rfl rfl (Nat.le_of_ble_eq_true rfl) dX4_readOnto_79 (fun H locs hP hD hS => ?_)
                have hP : va_P D vwCl [(ta, .inr (4, [.ref tb, .int tln, .int (tcl_14 + 1), .int o25, .int o26, .int o11, .ref tc])), (tb, .inl (cC, 200, .inl tlt)), (tc, .inl (cI, 4, .inl o6)), (fa, .inr (0, [.int o12, .ref fb, .int o13, .ref fc, .int o14, .int o15])), (fb, .inl (cI, 24, .inl o7)), (fc, .inl (cI, 84, .inl o8))] H := hP
                have hD : va_D A [(ta, .inr (4, [.ref tb, .int tln, .int (tcl_14 + 1), .int o25, .int o26, .int o11, .ref tc])), (tb, .inl (cC, 200, .inl tlt)), (tc, .inl (cI, 4, .inl o6)), (fa, .inr (0, [.int o12, .ref fb, .int o13, .ref fc, .int o14, .int o15])), (fb, .inl (cI, 24, .inl o7)), (fc, .inl (cI, 84, .inl o8))] := hD
                refine lv_goto (tgt := 14) hx hb dX4_readOnto_82 (by decide) ?_
                exact ih (tcl_14 + 1) o25 o26 o11 o6 o12 o13 o14 o15 o7 o8 hf H locs ls hP hD hS (lv_sub hl [0, 1] rfl)
              · have hf := if_p c24 hf
                refine lv_aload_n hx hb dX4_readOnto_63 rfl (lv_at hl 0 rfl) ?_
                refine va_get (D := D) (ci := 4) (v := .int o9) (C := RX4) (T := TX4) (N := 7) hx hb hts w0 hown hK hP 0 rfl rfl 3 (by decide) w3 (fun _ h9 => h9) rfl dX4_readOnto_64 ?_
                have h1 := Option.some.inj hf
                subst h1
                rw [hQ]
                exact W.iret (v := o9) hx hb hr (fun t ht hW => qEnd hP hS ht) hS.2.2 dX4_readOnto_67
          · have hf := if_n c20 hf
            refine lv_iconst (v := (-1)) hx hb dX4_readOnto_43 (by decide) ?_
            have h1 := Option.some.inj hf
            subst h1
            rw [hQ]
            exact W.iret (v := (-1)) hx hb hr (fun t ht hW => qEnd hP hS ht) hS.2.2 dX4_readOnto_44
        · have hf := if_p c17 hf
          refine lv_aload_n hx hb dX4_readOnto_31 rfl (lv_at hl 0 rfl) ?_
          refine va_get (D := D) (ci := 4) (v := .int o9) (C := RX4) (T := TX4) (N := 7) hx hb hts w0 hown hK hP 0 rfl rfl 3 (by decide) w3 (fun _ h9 => h9) rfl dX4_readOnto_32 ?_
          have h1 := Option.some.inj hf
          subst h1
          rw [hQ]
          exact W.iret (v := o9) hx hb hr (fun t ht hW => qEnd hP hS ht) hS.2.2 dX4_readOnto_35
  unfold f_X4_readOnto at hf
  refine lv_aload_n hx hb dX4_readOnto_0 rfl (lv_at hl 0 rfl) ?_
  refine lv_iconst (v := 0) hx hb dX4_readOnto_1 (by decide) ?_
  refine va_put (D := D) (ci := 4) (v := .int 0) (ty := .int) (C := RX4) (T := TX4) (N := 7) hx hb hts w0 tyX4 tyX4_ok nmX4 hown hK hP hD hS 0 rfl rfl 4 (by decide) w1 (fun _ h9 => h9) rfl (by decide +kernel) rfl rfl (Nat.le_of_ble_eq_true rfl) dX4_readOnto_2 (fun H locs hP hD hS => ?_)
  have hP : va_P D vwCl [(ta, .inr (4, [.ref tb, .int tln, .int tcl, .int tts, .int 0, .int tam, .ref tc])), (tb, .inl (cC, 200, .inl tlt)), (tc, .inl (cI, 4, .inl tsv)), (fa, .inr (0, [.int fst, .ref fb, .int fwy, .ref fc, .int fmk, .int fwt])), (fb, .inl (cI, 24, .inl fvl)), (fc, .inl (cI, 84, .inl fpt))] H := hP
  have hD : va_D A [(ta, .inr (4, [.ref tb, .int tln, .int tcl, .int tts, .int 0, .int tam, .ref tc])), (tb, .inl (cC, 200, .inl tlt)), (tc, .inl (cI, 4, .inl tsv)), (fa, .inr (0, [.int fst, .ref fb, .int fwy, .ref fc, .int fmk, .int fwt])), (fb, .inl (cI, 24, .inl fvl)), (fc, .inl (cI, 84, .inl fpt))] := hD
  refine lv_aload_n hx hb dX4_readOnto_5 rfl (lv_at hl 0 rfl) ?_
  obtain ⟨⟨o1, o2⟩, hc3, hf⟩ := bd_inv hf
  refine xcV (As := []) (rest := []) (ws' := [(ta, .inr (4, [.ref tb, .int tln, .int tcl, .int o1, .int o2, .int tam, .ref tc])), (tb, .inl (cC, 200, .inl tlt)), (tc, .inl (cI, 4, .inl tsv)), (fa, .inr (0, [.int fst, .ref fb, .int fwy, .ref fc, .int fmk, .int fwt])), (fb, .inl (cI, 24, .inl fvl)), (fc, .inl (cI, 84, .inl fpt))]) ⟨hx, hb, hml, hown, hts⟩ (c_X4_advance l D B adK adV cC cF cI cZ cM cS ta tb tln tcl tts 0 tam tc tlt tsv  (o1, o2) hc3) (cwV 0 hts gX4_readOnto_X4_advance rfl rfl rfl (by decide +kernel) ⟨Nat.le_of_ble_eq_true rfl, Nat.le_of_ble_eq_true rfl⟩) (va_recv hK hP (ci := 4) (q0 := 0) rfl rfl) hK hP hD hS hB hE [0, 1, 2] rfl rfl rfl rfl rfl hl.1 rfl (Nat.le_of_ble_eq_true rfl) dX4_readOnto_6 ⟨Nat.le_of_ble_eq_true rfl, Nat.le_of_ble_eq_true rfl⟩ (fun H locs hP hD hS => ?_)
  refine W.eq (g2 := F0 m 9 ls []) rfl ?_
  refine lv_aload_n hx hb dX4_readOnto_9 rfl (lv_at hl 0 rfl) ?_
  refine lv_iconst (v := 1) hx hb dX4_readOnto_10 (by decide) ?_
  refine va_put (D := D) (ci := 4) (v := .int 1) (ty := .int) (C := RX4) (T := TX4) (N := 7) hx hb hts w0 tyX4 tyX4_ok nmX4 hown hK hP hD hS 0 rfl rfl 2 (by decide) w2 (fun _ h9 => h9) rfl (by decide +kernel) rfl rfl (Nat.le_of_ble_eq_true rfl) dX4_readOnto_11 (fun H locs hP hD hS => ?_)
  have hP : va_P D vwCl [(ta, .inr (4, [.ref tb, .int tln, .int 1, .int o1, .int o2, .int tam, .ref tc])), (tb, .inl (cC, 200, .inl tlt)), (tc, .inl (cI, 4, .inl tsv)), (fa, .inr (0, [.int fst, .ref fb, .int fwy, .ref fc, .int fmk, .int fwt])), (fb, .inl (cI, 24, .inl fvl)), (fc, .inl (cI, 84, .inl fpt))] H := hP
  have hD : va_D A [(ta, .inr (4, [.ref tb, .int tln, .int 1, .int o1, .int o2, .int tam, .ref tc])), (tb, .inl (cC, 200, .inl tlt)), (tc, .inl (cI, 4, .inl tsv)), (fa, .inr (0, [.int fst, .ref fb, .int fwy, .ref fc, .int fmk, .int fwt])), (fb, .inl (cI, 24, .inl fvl)), (fc, .inl (cI, 84, .inl fpt))] := hD
  exact L14 1000 1 o1 o2 tam tsv fst fwy fmk fwt fvl fpt hf H locs ls hP hD hS (lv_sub hl [0, 1] rfl)
