set_option maxRecDepth 100000 in
set_option maxHeartbeats 4000000 in
theorem c_X0_reset (l : Launch) (D : va_G) (B : Nat) (adK adV : Nat → Nat) (cC cF cI cZ cM cS : ClassId) (fa : Nat) (fst : Int32) (fb : Nat) (fwy : Int32) (fc : Nat) (fmk : Int32) (fwt : Int32) (fvl : Nat → Int32) (fpt : Nat → Int32) (zz : Int32 × Int32 × Int32 × Int32) (hf : f_X0_reset  = some zz) : Ct l yX0_reset wsX0_reset { frames := 0, cells := 0, slots := 0, locals := 0 } D B adK adV (tysX cC cF cI cZ cM cS) [.ref fa] [(fa, .inr (0, [.int fst, .ref fb, .int fwy, .ref fc, .int fmk, .int fwt])), (fb, .inl (cI, 24, .inl fvl)), (fc, .inl (cI, 84, .inl fpt))] [(fa, .inr (0, [.int zz.1, .ref fb, .int zz.2.1, .ref fc, .int zz.2.2.1, .int zz.2.2.2])), (fb, .inl (cI, 24, .inl fvl)), (fc, .inl (cI, 84, .inl fpt))] none := by
  refine Ct.ofW (cc := cX0_reset) (maxL := 1) (ret := none) (by decide) rfl (Nat.le_of_ble_eq_true rfl) ?_
  intro p e s m args below meth c hx hb hr hml hts hown hlocks hnm hK hE A Q hQ hB H locs ls hP hD hS hl
  have hl : lv_has ls 1 [(0, .ref fa)] := hl
  have w0 : ∀ w ∈ u_ws RX0 TX0 6, w ∈ wsX0_reset := by decide +kernel
  have w1 := hts (.fieldLink RX0 22 "MotionStates$Figure" "states" "I") (by decide +kernel)
  have w2 := hts (.fieldLink RX0 31 "MotionStates$Figure" "ways" "I") (by decide +kernel)
  have w3 := hts (.fieldLink RX0 34 "MotionStates$Figure" "mask" "I") (by decide +kernel)
  have w4 := hts (.fieldLink RX0 18 "MotionStates$Figure" "weight" "I") (by decide +kernel)
  unfold f_X0_reset at hf
  refine lv_aload_n hx hb dX0_reset_0 rfl (lv_at hl 0 rfl) ?_
  refine lv_iconst (v := 0) hx hb dX0_reset_1 (by decide) ?_
  refine va_put (D := D) (ci := 0) (v := .int 0) (ty := .int) (C := RX0) (T := TX0) (N := 6) hx hb hts w0 tyX0 tyX0_ok nmX0 hown hK hP hD hS 0 rfl rfl 0 (by decide) w1 (fun _ h9 => h9) rfl (by decide +kernel) rfl rfl (Nat.le_of_ble_eq_true rfl) dX0_reset_2 (fun H locs hP hD hS => ?_)
  have hP : va_P D vwCl [(fa, .inr (0, [.int 0, .ref fb, .int fwy, .ref fc, .int fmk, .int fwt])), (fb, .inl (cI, 24, .inl fvl)), (fc, .inl (cI, 84, .inl fpt))] H := hP
  have hD : va_D A [(fa, .inr (0, [.int 0, .ref fb, .int fwy, .ref fc, .int fmk, .int fwt])), (fb, .inl (cI, 24, .inl fvl)), (fc, .inl (cI, 84, .inl fpt))] := hD
  refine lv_aload_n hx hb dX0_reset_5 rfl (lv_at hl 0 rfl) ?_
  refine lv_iconst (v := 0) hx hb dX0_reset_6 (by decide) ?_
  refine va_put (D := D) (ci := 0) (v := .int 0) (ty := .int) (C := RX0) (T := TX0) (N := 6) hx hb hts w0 tyX0 tyX0_ok nmX0 hown hK hP hD hS 0 rfl rfl 2 (by decide) w2 (fun _ h9 => h9) rfl (by decide +kernel) rfl rfl (Nat.le_of_ble_eq_true rfl) dX0_reset_7 (fun H locs hP hD hS => ?_)
  have hP : va_P D vwCl [(fa, .inr (0, [.int 0, .ref fb, .int 0, .ref fc, .int fmk, .int fwt])), (fb, .inl (cI, 24, .inl fvl)), (fc, .inl (cI, 84, .inl fpt))] H := hP
  have hD : va_D A [(fa, .inr (0, [.int 0, .ref fb, .int 0, .ref fc, .int fmk, .int fwt])), (fb, .inl (cI, 24, .inl fvl)), (fc, .inl (cI, 84, .inl fpt))] := hD
  refine lv_aload_n hx hb dX0_reset_10 rfl (lv_at hl 0 rfl) ?_
  refine lv_iconst (v := 0) hx hb dX0_reset_11 (by decide) ?_
  refine va_put (D := D) (ci := 0) (v := .int 0) (ty := .int) (C := RX0) (T := TX0) (N := 6) hx hb hts w0 tyX0 tyX0_ok nmX0 hown hK hP hD hS 0 rfl rfl 4 (by decide) w3 (fun _ h9 => h9) rfl (by decide +kernel) rfl rfl (Nat.le_of_ble_eq_true rfl) dX0_reset_12 (fun H locs hP hD hS => ?_)
  have hP : va_P D vwCl [(fa, .inr (0, [.int 0, .ref fb, .int 0, .ref fc, .int 0, .int fwt])), (fb, .inl (cI, 24, .inl fvl)), (fc, .inl (cI, 84, .inl fpt))] H := hP
  have hD : va_D A [(fa, .inr (0, [.int 0, .ref fb, .int 0, .ref fc, .int 0, .int fwt])), (fb, .inl (cI, 24, .inl fvl)), (fc, .inl (cI, 84, .inl fpt))] := hD
  refine lv_aload_n hx hb dX0_reset_15 rfl (lv_at hl 0 rfl) ?_
  refine lv_bipush (v := 16) hx hb dX0_reset_16 (by decide) ?_
  refine va_put (D := D) (ci := 0) (v := .int 16) (ty := .int) (C := RX0) (T := TX0) (N := 6) hx hb hts w0 tyX0 tyX0_ok nmX0 hown hK hP hD hS 0 rfl rfl 5 (by decide) w4 (fun _ h9 => h9) rfl (by decide +kernel) rfl rfl (Nat.le_of_ble_eq_true rfl) dX0_reset_18 (fun H locs hP hD hS => ?_)
  have hP : va_P D vwCl [(fa, .inr (0, [.int 0, .ref fb, .int 0, .ref fc, .int 0, .int 16])), (fb, .inl (cI, 24, .inl fvl)), (fc, .inl (cI, 84, .inl fpt))] H := hP
  have hD : va_D A [(fa, .inr (0, [.int 0, .ref fb, .int 0, .ref fc, .int 0, .int 16])), (fb, .inl (cI, 24, .inl fvl)), (fc, .inl (cI, 84, .inl fpt))] := hD
  have h1 := Option.some.inj hf
  subst h1
  rw [hQ]
  exact W.vret hx hb hr (fun t ht hW => qEnd hP hS ht) hS.2.2 dX0_reset_21
set_option maxRecDepth 100000 in
set_option maxHeartbeats 4000000 in
theorem c_X0_part (l : Launch) (D : va_G) (B : Nat) (adK adV : Nat → Nat) (cC cF cI cZ cM cS : ClassId) (fa : Nat) (fst : Int32) (fb : Nat) (fwy : Int32) (fc : Nat) (fmk : Int32) (fwt : Int32) (fvl : Nat → Int32) (fpt : Nat → Int32) (i : Int32) (k : Int32) (zz : Int32) (hf : f_X0_part fpt i k = some zz) : Ct l yX0_part wsX0_part { frames := 0, cells := 0, slots := 0, locals := 0 } D B adK adV (tysX cC cF cI cZ cM cS) [.ref fa, .int i, .int k] [(fa, .inr (0, [.int fst, .ref fb, .int fwy, .ref fc, .int fmk, .int fwt])), (fb, .inl (cI, 24, .inl fvl)), (fc, .inl (cI, 84, .inl fpt))] [(fa, .inr (0, [.int fst, .ref fb, .int fwy, .ref fc, .int fmk, .int fwt])), (fb, .inl (cI, 24, .inl fvl)), (fc, .inl (cI, 84, .inl fpt))] (some (.int zz)) := by
  refine Ct.ofW (cc := cX0_part) (maxL := 3) (ret := (some .int)) (by decide) rfl (Nat.le_of_ble_eq_true rfl) ?_
  intro p e s m args below meth c hx hb hr hml hts hown hlocks hnm hK hE A Q hQ hB H locs ls hP hD hS hl
  have hl : lv_has ls 3 [(0, .ref fa), (1, .int i), (2, .int k)] := hl
  have w0 : ∀ w ∈ u_ws RX0 TX0 6, w ∈ wsX0_part := by decide +kernel
  have w1 := hts (.fieldLink RX0 15 "MotionStates$Figure" "wayParts" "[I") (by decide +kernel)
  unfold f_X0_part at hf
  refine lv_aload_n hx hb dX0_part_0 rfl (lv_at hl 0 rfl) ?_
  refine va_get (D := D) (ci := 0) (v := .ref fc) (C := RX0) (T := TX0) (N := 6) hx hb hts w0 hown hK hP 0 rfl rfl 3 (by decide) w1 (fun _ h9 => h9) rfl dX0_part_1 ?_
  refine lv_iload_n hx hb dX0_part_4 rfl (lv_at hl 1 rfl) ?_
  refine lv_bipush (v := 7) hx hb dX0_part_5 (by decide) ?_
  refine lv_imul hx hb dX0_part_7 ?_
  refine lv_iload_n hx hb dX0_part_8 rfl (lv_at hl 2 rfl) ?_
  refine lv_iadd hx hb dX0_part_9 ?_
  obtain ⟨g1, hf⟩ := gd_inv hf
  refine va_iald hx hb hK hP 2 2 rfl rfl g1 dX0_part_10 ?_
  have h1 := Option.some.inj hf
  subst h1
  rw [hQ]
  exact W.iret (v := (fpt (((i * 7) + k).toNatClampNeg))) hx hb hr (fun t ht hW => qEnd hP hS ht) hS.2.2 dX0_part_11
set_option maxRecDepth 100000 in
set_option maxHeartbeats 4000000 in
theorem c_X0_putPart (l : Launch) (D : va_G) (B : Nat) (adK adV : Nat → Nat) (cC cF cI cZ cM cS : ClassId) (fa : Nat) (fst : Int32) (fb : Nat) (fwy : Int32) (fc : Nat) (fmk : Int32) (fwt : Int32) (fvl : Nat → Int32) (fpt : Nat → Int32) (i : Int32) (k : Int32) (v : Int32) (zz : (Nat → Int32)) (hf : f_X0_putPart fpt i k v = some zz) : Ct l yX0_putPart wsX0_putPart { frames := 0, cells := 0, slots := 0, locals := 0 } D B adK adV (tysX cC cF cI cZ cM cS) [.ref fa, .int i, .int k, .int v] [(fa, .inr (0, [.int fst, .ref fb, .int fwy, .ref fc, .int fmk, .int fwt])), (fb, .inl (cI, 24, .inl fvl)), (fc, .inl (cI, 84, .inl fpt))] [(fa, .inr (0, [.int fst, .ref fb, .int fwy, .ref fc, .int fmk, .int fwt])), (fb, .inl (cI, 24, .inl fvl)), (fc, .inl (cI, 84, .inl zz))] none := by
  refine Ct.ofW (cc := cX0_putPart) (maxL := 4) (ret := none) (by decide) rfl (Nat.le_of_ble_eq_true rfl) ?_
  intro p e s m args below meth c hx hb hr hml hts hown hlocks hnm hK hE A Q hQ hB H locs ls hP hD hS hl
  have hl : lv_has ls 4 [(0, .ref fa), (1, .int i), (2, .int k), (3, .int v)] := hl
  have w0 : ∀ w ∈ u_ws RX0 TX0 6, w ∈ wsX0_putPart := by decide +kernel
  have w1 := hts (.fieldLink RX0 15 "MotionStates$Figure" "wayParts" "[I") (by decide +kernel)
  unfold f_X0_putPart at hf
  refine lv_aload_n hx hb dX0_putPart_0 rfl (lv_at hl 0 rfl) ?_
  refine va_get (D := D) (ci := 0) (v := .ref fc) (C := RX0) (T := TX0) (N := 6) hx hb hts w0 hown hK hP 0 rfl rfl 3 (by decide) w1 (fun _ h9 => h9) rfl dX0_putPart_1 ?_
  refine lv_iload_n hx hb dX0_putPart_4 rfl (lv_at hl 1 rfl) ?_
  refine lv_bipush (v := 7) hx hb dX0_putPart_5 (by decide) ?_
  refine lv_imul hx hb dX0_putPart_7 ?_
  refine lv_iload_n hx hb dX0_putPart_8 rfl (lv_at hl 2 rfl) ?_
  refine lv_iadd hx hb dX0_putPart_9 ?_
  refine lv_iload_n hx hb dX0_putPart_10 rfl (lv_at hl 3 rfl) ?_
  obtain ⟨g1, hf⟩ := gd_inv hf
  refine va_iast hx hb hK hP hD hS 2 2 rfl rfl g1 dX0_putPart_11 (fun H locs hP hD hS => ?_)
  have hP : va_P D vwCl [(fa, .inr (0, [.int fst, .ref fb, .int fwy, .ref fc, .int fmk, .int fwt])), (fb, .inl (cI, 24, .inl fvl)), (fc, .inl (cI, 84, .inl (upd fpt (((i * 7) + k).toNatClampNeg) v)))] H := hP
  have hD : va_D A [(fa, .inr (0, [.int fst, .ref fb, .int fwy, .ref fc, .int fmk, .int fwt])), (fb, .inl (cI, 24, .inl fvl)), (fc, .inl (cI, 84, .inl (upd fpt (((i * 7) + k).toNatClampNeg) v)))] := hD
  have h1 := Option.some.inj hf
  subst h1
  rw [hQ]
  exact W.vret hx hb hr (fun t ht hW => qEnd hP hS ht) hS.2.2 dX0_putPart_12
set_option maxRecDepth 100000 in
set_option maxHeartbeats 4000000 in
theorem c_X0_leadsFrom (l : Launch) (D : va_G) (B : Nat) (adK adV : Nat → Nat) (cC cF cI cZ cM cS : ClassId) (fa : Nat) (fst : Int32) (fb : Nat) (fwy : Int32) (fc : Nat) (fmk : Int32) (fwt : Int32) (fvl : Nat → Int32) (fpt : Nat → Int32) (i : Int32) (x : Int32) (zz : Int32) (hf : f_X0_leadsFrom fpt i x = some zz) : Ct l yX0_leadsFrom wsX0_leadsFrom { frames := 1, cells := 0, slots := 0, locals := 22 } D B adK adV (tysX cC cF cI cZ cM cS) [.ref fa, .int i, .int x] [(fa, .inr (0, [.int fst, .ref fb, .int fwy, .ref fc, .int fmk, .int fwt])), (fb, .inl (cI, 24, .inl fvl)), (fc, .inl (cI, 84, .inl fpt))] [(fa, .inr (0, [.int fst, .ref fb, .int fwy, .ref fc, .int fmk, .int fwt])), (fb, .inl (cI, 24, .inl fvl)), (fc, .inl (cI, 84, .inl fpt))] (some (.int zz)) := by
  refine Ct.ofW (cc := cX0_leadsFrom) (maxL := 4) (ret := (some .boolean)) (by decide) rfl (Nat.le_of_ble_eq_true rfl) ?_
  intro p e s m args below meth c hx hb hr hml hts hown hlocks hnm hK hE A Q hQ hB H locs ls hP hD hS hl
  have hl : lv_has ls 4 [(0, .ref fa), (1, .int i), (2, .int x)] := hl
  unfold f_X0_leadsFrom at hf
  refine lv_aload_n hx hb dX0_leadsFrom_0 rfl (lv_at hl 0 rfl) ?_
  refine lv_iload_n hx hb dX0_leadsFrom_1 rfl (lv_at hl 1 rfl) ?_
  refine lv_iconst (v := 0) hx hb dX0_leadsFrom_2 (by decide) ?_
  obtain ⟨r1, hc2, hf⟩ := bd_inv hf
  refine xcV (As := [.int i, .int 0]) (rest := []) (ws' := [(fa, .inr (0, [.int fst, .ref fb, .int fwy, .ref fc, .int fmk, .int fwt])), (fb, .inl (cI, 24, .inl fvl)), (fc, .inl (cI, 84, .inl fpt))]) ⟨hx, hb, hml, hown, hts⟩ (c_X0_part l D B adK adV cC cF cI cZ cM cS fa fst fb fwy fc fmk fwt fvl fpt i 0  r1 hc2) (cwV 2 hts gX0_leadsFrom_X0_part rfl rfl rfl (by decide +kernel) ⟨Nat.le_of_ble_eq_true rfl, Nat.le_of_ble_eq_true rfl⟩) (va_recv hK hP (ci := 0) (q0 := 0) rfl rfl) hK hP hD hS hB hE [0, 1, 2] rfl rfl rfl rfl rfl hl.1 rfl (Nat.le_of_ble_eq_true rfl) dX0_leadsFrom_3 ⟨Nat.le_of_ble_eq_true rfl, Nat.le_of_ble_eq_true rfl⟩ (fun H locs hP hD hS => ?_)
  refine W.eq (g2 := F0 m 6 ls [.int r1]) rfl ?_
  refine lv_istore_n (lv' := [(3, .int r1), (0, .ref fa), (1, .int i), (2, .int x)]) hx hb dX0_leadsFrom_6 rfl hl (by decide) rfl (fun ls hl => ?_)
  refine lv_iload_n hx hb dX0_leadsFrom_7 rfl (lv_at hl 0 rfl) ?_
  refine lv_iload_n hx hb dX0_leadsFrom_8 rfl (lv_at hl 3 rfl) ?_
  refine lv_icmp_eq (tgt := 18) hx hb dX0_leadsFrom_9 (by decide) (fun c3 => ?_) (fun c3 => ?_)
  · have hf := if_p c3 hf
    refine lv_iconst (v := 1) hx hb dX0_leadsFrom_18 (by decide) ?_
    refine lv_goto (tgt := 23) hx hb dX0_leadsFrom_19 (by decide) ?_
    have h1 := Option.some.inj hf
    subst h1
    rw [hQ]
    exact W.zret (v := 1) (ty := .boolean) hx hb hr rfl (fun t ht hW => qEnd hP hS ht) hS.2.2 dX0_leadsFrom_23
  · have hf := if_n c3 hf
    refine lv_iload_n hx hb dX0_leadsFrom_12 rfl (lv_at hl 0 rfl) ?_
    refine lv_bipush (v := 9) hx hb dX0_leadsFrom_13 (by decide) ?_
    refine lv_icmp_ne (tgt := 22) hx hb dX0_leadsFrom_15 (by decide) (fun c4 => ?_) (fun c4 => ?_)
    · have hf := if_n c4 hf
      refine lv_iconst (v := 0) hx hb dX0_leadsFrom_22 (by decide) ?_
      have h1 := Option.some.inj hf
      subst h1
      rw [hQ]
      exact W.zret (v := 0) (ty := .boolean) hx hb hr rfl (fun t ht hW => qEnd hP hS ht) hS.2.2 dX0_leadsFrom_23
    · have hf := if_p c4 hf
      refine lv_iconst (v := 1) hx hb dX0_leadsFrom_18 (by decide) ?_
      refine lv_goto (tgt := 23) hx hb dX0_leadsFrom_19 (by decide) ?_
      have h1 := Option.some.inj hf
      subst h1
      rw [hQ]
      exact W.zret (v := 1) (ty := .boolean) hx hb hr rfl (fun t ht hW => qEnd hP hS ht) hS.2.2 dX0_leadsFrom_23
set_option maxRecDepth 100000 in
set_option maxHeartbeats 4000000 in
theorem c_X0_isMasked (l : Launch) (D : va_G) (B : Nat) (adK adV : Nat → Nat) (cC cF cI cZ cM cS : ClassId) (fa : Nat) (fst : Int32) (fb : Nat) (fwy : Int32) (fc : Nat) (fmk : Int32) (fwt : Int32) (fvl : Nat → Int32) (fpt : Nat → Int32) (i : Int32) (zz : Int32) (hf : f_X0_isMasked fmk i = some zz) : Ct l yX0_isMasked wsX0_isMasked { frames := 0, cells := 0, slots := 0, locals := 0 } D B adK adV (tysX cC cF cI cZ cM cS) [.ref fa, .int i] [(fa, .inr (0, [.int fst, .ref fb, .int fwy, .ref fc, .int fmk, .int fwt])), (fb, .inl (cI, 24, .inl fvl)), (fc, .inl (cI, 84, .inl fpt))] [(fa, .inr (0, [.int fst, .ref fb, .int fwy, .ref fc, .int fmk, .int fwt])), (fb, .inl (cI, 24, .inl fvl)), (fc, .inl (cI, 84, .inl fpt))] (some (.int zz)) := by
  refine Ct.ofW (cc := cX0_isMasked) (maxL := 2) (ret := (some .boolean)) (by decide) rfl (Nat.le_of_ble_eq_true rfl) ?_
  intro p e s m args below meth c hx hb hr hml hts hown hlocks hnm hK hE A Q hQ hB H locs ls hP hD hS hl
  have hl : lv_has ls 2 [(0, .ref fa), (1, .int i)] := hl
  have w0 : ∀ w ∈ u_ws RX0 TX0 6, w ∈ wsX0_isMasked := by decide +kernel
  have w1 := hts (.fieldLink RX0 34 "MotionStates$Figure" "mask" "I") (by decide +kernel)
  unfold f_X0_isMasked at hf
  refine lv_aload_n hx hb dX0_isMasked_0 rfl (lv_at hl 0 rfl) ?_
  refine va_get (D := D) (ci := 0) (v := .int fmk) (C := RX0) (T := TX0) (N := 6) hx hb hts w0 hown hK hP 0 rfl rfl 4 (by decide) w1 (fun _ h9 => h9) rfl dX0_isMasked_1 ?_
  refine lv_iload_n hx hb dX0_isMasked_4 rfl (lv_at hl 1 rfl) ?_
  refine lv_ishr hx hb dX0_isMasked_5 ?_
  refine lv_iconst (v := 1) hx hb dX0_isMasked_6 (by decide) ?_
  refine lv_iand hx hb dX0_isMasked_7 ?_
  refine lv_iconst (v := 1) hx hb dX0_isMasked_8 (by decide) ?_
  refine lv_icmp_ne (tgt := 16) hx hb dX0_isMasked_9 (by decide) (fun c1 => ?_) (fun c1 => ?_)
  · have hf := if_n c1 hf
    refine lv_iconst (v := 0) hx hb dX0_isMasked_16 (by decide) ?_
    have h1 := Option.some.inj hf
    subst h1
    rw [hQ]
    exact W.zret (v := 0) (ty := .boolean) hx hb hr rfl (fun t ht hW => qEnd hP hS ht) hS.2.2 dX0_isMasked_17
  · have hf := if_p c1 hf
    refine lv_iconst (v := 1) hx hb dX0_isMasked_12 (by decide) ?_
    refine lv_goto (tgt := 17) hx hb dX0_isMasked_13 (by decide) ?_
    have h1 := Option.some.inj hf
    subst h1
    rw [hQ]
    exact W.zret (v := 1) (ty := .boolean) hx hb hr rfl (fun t ht hW => qEnd hP hS ht) hS.2.2 dX0_isMasked_17
set_option maxRecDepth 100000 in
set_option maxHeartbeats 4000000 in
theorem c_X0_stepsFrom (l : Launch) (D : va_G) (B : Nat) (adK adV : Nat → Nat) (cC cF cI cZ cM cS : ClassId) (fa : Nat) (fst : Int32) (fb : Nat) (fwy : Int32) (fc : Nat) (fmk : Int32) (fwt : Int32) (fvl : Nat → Int32) (fpt : Nat → Int32) (x : Int32) (zz : Int32) (hf : f_X0_stepsFrom fwy fpt x = some zz) : Ct l yX0_stepsFrom wsX0_stepsFrom { frames := 1, cells := 0, slots := 0, locals := 22 } D B adK adV (tysX cC cF cI cZ cM cS) [.ref fa, .int x] [(fa, .inr (0, [.int fst, .ref fb, .int fwy, .ref fc, .int fmk, .int fwt])), (fb, .inl (cI, 24, .inl fvl)), (fc, .inl (cI, 84, .inl fpt))] [(fa, .inr (0, [.int fst, .ref fb, .int fwy, .ref fc, .int fmk, .int fwt])), (fb, .inl (cI, 24, .inl fvl)), (fc, .inl (cI, 84, .inl fpt))] (some (.int zz)) := by
  refine Ct.ofW (cc := cX0_stepsFrom) (maxL := 5) (ret := (some .int)) (by decide) rfl (Nat.le_of_ble_eq_true rfl) ?_
  intro p e s m args below meth c hx hb hr hml hts hown hlocks hnm hK hE A Q hQ hB H locs ls hP hD hS hl
  have hl : lv_has ls 5 [(0, .ref fa), (1, .int x)] := hl
  have w0 : ∀ w ∈ u_ws RX0 TX0 6, w ∈ wsX0_stepsFrom := by decide +kernel
  have w1 := hts (.fieldLink RX0 31 "MotionStates$Figure" "ways" "I") (by decide +kernel)
  have L4 : ∀ (n : Nat) (x3_4 : Int32) (x2_4 : Int32), f_X0_stepsFrom_L4 fwy fpt x n x3_4 x2_4 = some zz → ∀ (H : Heap) (locs : List Loc) (ls : Array Slot), va_P D vwCl [(fa, .inr (0, [.int fst, .ref fb, .int fwy, .ref fc, .int fmk, .int fwt])), (fb, .inl (cI, 24, .inl fvl)), (fc, .inl (cI, 84, .inl fpt))] H → va_D A [(fa, .inr (0, [.int fst, .ref fb, .int fwy, .ref fc, .int fmk, .int fwt])), (fb, .inl (cI, 24, .inl fvl)), (fc, .inl (cI, 84, .inl fpt))] → va_S A s.heap H locs → lv_has ls 5 [(3, .int x3_4), (2, .int x2_4), (0, .ref fa), (1, .int x)] → W p l e { frames := 1, cells := 0, slots := 0, locals := 22 } s m args below meth c H locs 0 0 Q (F0 m 4 ls []) := by
    intro n
    induction n with
    | zero => intro x3_4 x2_4 hf; exact absurd hf (by simp [f_X0_stepsFrom_L4])
    | succ n ih =>
      intro x3_4 x2_4 hf H locs ls hP hD hS hl
      rw [f_X0_stepsFrom_L4] at hf
      refine lv_iload_n hx hb dX0_stepsFrom_4 rfl (lv_at hl 0 rfl) ?_
      refine lv_aload_n hx hb dX0_stepsFrom_5 rfl (lv_at hl 2 rfl) ?_
      refine va_get (D := D) (ci := 0) (v := .int fwy) (C := RX0) (T := TX0) (N := 6) hx hb hts w0 hown hK hP 0 rfl rfl 2 (by decide) w1 (fun _ h9 => h9) rfl dX0_stepsFrom_6 ?_
      refine lv_icmp_ge (tgt := 54) hx hb dX0_stepsFrom_9 (by decide) (fun c1 => ?_) (fun c1 => ?_)
      · have hf := if_p c1 hf
        refine lv_iload_n hx hb dX0_stepsFrom_54 rfl (lv_at hl 1 rfl) ?_
        have h1 := Option.some.inj hf
        subst h1
        rw [hQ]
        exact W.iret (v := x2_4) hx hb hr (fun t ht hW => qEnd hP hS ht) hS.2.2 dX0_stepsFrom_55
      · have hf := if_n c1 hf
        refine lv_aload_n hx hb dX0_stepsFrom_12 rfl (lv_at hl 2 rfl) ?_
        refine lv_iload_n hx hb dX0_stepsFrom_13 rfl (lv_at hl 0 rfl) ?_
        refine lv_iconst (v := 0) hx hb dX0_stepsFrom_14 (by decide) ?_
        obtain ⟨r2, hc3, hf⟩ := bd_inv hf
        refine xcV (As := [.int x3_4, .int 0]) (rest := []) (ws' := [(fa, .inr (0, [.int fst, .ref fb, .int fwy, .ref fc, .int fmk, .int fwt])), (fb, .inl (cI, 24, .inl fvl)), (fc, .inl (cI, 84, .inl fpt))]) ⟨hx, hb, hml, hown, hts⟩ (c_X0_part l D B adK adV cC cF cI cZ cM cS fa fst fb fwy fc fmk fwt fvl fpt x3_4 0  r2 hc3) (cwV 2 hts gX0_stepsFrom_X0_part rfl rfl rfl (by decide +kernel) ⟨Nat.le_of_ble_eq_true rfl, Nat.le_of_ble_eq_true rfl⟩) (va_recv hK hP (ci := 0) (q0 := 0) rfl rfl) hK hP hD hS hB hE [0, 1, 2] rfl rfl rfl rfl rfl hl.1 rfl (Nat.le_of_ble_eq_true rfl) dX0_stepsFrom_15 ⟨Nat.le_of_ble_eq_true rfl, Nat.le_of_ble_eq_true rfl⟩ (fun H locs hP hD hS => ?_)
        refine W.eq (g2 := F0 m 18 ls [.int r2]) rfl ?_
        refine lv_istore (lv' := [(4, .int r2), (3, .int x3_4), (2, .int x2_4), (0, .ref fa), (1, .int x)]) hx hb dX0_stepsFrom_18 hl (by decide) rfl (fun ls hl => ?_)
        refine lv_iload hx hb dX0_stepsFrom_20 (lv_at hl 0 rfl) ?_
        refine lv_bipush (v := 9) hx hb dX0_stepsFrom_22 (by decide) ?_
        refine lv_icmp_eq (tgt := 37) hx hb dX0_stepsFrom_24 (by decide) (fun c4 => ?_) (fun c4 => ?_)
        · have hf := if_p c4 hf
          refine lv_iload_n hx hb dX0_stepsFrom_37 rfl (lv_at hl 2 rfl) ?_
          refine lv_iconst (v := 1) hx hb dX0_stepsFrom_38 (by decide) ?_
          refine lv_aload_n hx hb dX0_stepsFrom_39 rfl (lv_at hl 3 rfl) ?_
          refine lv_iload_n hx hb dX0_stepsFrom_40 rfl (lv_at hl 1 rfl) ?_
          refine lv_iconst (v := 1) hx hb dX0_stepsFrom_41 (by decide) ?_
          obtain ⟨r5, hc6, hf⟩ := bd_inv hf
          refine xcV (As := [.int x3_4, .int 1]) (rest := [.int 1, .int x2_4]) (ws' := [(fa, .inr (0, [.int fst, .ref fb, .int fwy, .ref fc, .int fmk, .int fwt])), (fb, .inl (cI, 24, .inl fvl)), (fc, .inl (cI, 84, .inl fpt))]) ⟨hx, hb, hml, hown, hts⟩ (c_X0_part l D B adK adV cC cF cI cZ cM cS fa fst fb fwy fc fmk fwt fvl fpt x3_4 1  r5 hc6) (cwV 2 hts gX0_stepsFrom_X0_part rfl rfl rfl (by decide +kernel) ⟨Nat.le_of_ble_eq_true rfl, Nat.le_of_ble_eq_true rfl⟩) (va_recv hK hP (ci := 0) (q0 := 0) rfl rfl) hK hP hD hS hB hE [0, 1, 2] rfl rfl rfl rfl rfl hl.1 rfl (Nat.le_of_ble_eq_true rfl) dX0_stepsFrom_42 ⟨Nat.le_of_ble_eq_true rfl, Nat.le_of_ble_eq_true rfl⟩ (fun H locs hP hD hS => ?_)
          refine W.eq (g2 := F0 m 45 ls [.int r5, .int 1, .int x2_4]) rfl ?_
          refine lv_ishl hx hb dX0_stepsFrom_45 ?_
          refine lv_ior hx hb dX0_stepsFrom_46 ?_
          refine lv_istore_n (lv' := [(2, .int (x2_4 ||| ((1 : Int32) <<< (r5 &&& 31)))), (4, .int r2), (3, .int x3_4), (0, .ref fa), (1, .int x)]) hx hb dX0_stepsFrom_47 rfl hl (by decide) rfl (fun ls hl => ?_)
          refine lv_iinc (v := x3_4 + 1) (lv' := [(3, .int (x3_4 + 1)), (2, .int (x2_4 ||| ((1 : Int32) <<< (r5 &&& 31)))), (4, .int r2), (0, .ref fa), (1, .int x)]) hx hb dX0_stepsFrom_48 hl (k := 2) rfl rfl (by decide) rfl (fun ls hl => ?_)
          refine lv_goto (tgt := 4) hx hb dX0_stepsFrom_51 (by decide) ?_
          exact ih (x3_4 + 1) (x2_4 ||| ((1 : Int32) <<< (r5 &&& 31))) hf H locs ls hP hD hS (lv_sub hl [0, 1, 3, 4] rfl)
        · have hf := if_n c4 hf
          refine lv_iload_n hx hb dX0_stepsFrom_27 rfl (lv_at hl 4 rfl) ?_
          refine lv_iload hx hb dX0_stepsFrom_28 (lv_at hl 0 rfl) ?_
          refine lv_ishr hx hb dX0_stepsFrom_30 ?_
          refine lv_iconst (v := 1) hx hb dX0_stepsFrom_31 (by decide) ?_
          refine lv_iand hx hb dX0_stepsFrom_32 ?_
          refine lv_iconst (v := 1) hx hb dX0_stepsFrom_33 (by decide) ?_
          refine lv_icmp_ne (tgt := 48) hx hb dX0_stepsFrom_34 (by decide) (fun c7 => ?_) (fun c7 => ?_)
          · have hf := if_n c7 hf
            refine lv_iinc (v := x3_4 + 1) (lv' := [(3, .int (x3_4 + 1)), (4, .int r2), (2, .int x2_4), (0, .ref fa), (1, .int x)]) hx hb dX0_stepsFrom_48 hl (k := 1) rfl rfl (by decide) rfl (fun ls hl => ?_)
            refine lv_goto (tgt := 4) hx hb dX0_stepsFrom_51 (by decide) ?_
            exact ih (x3_4 + 1) x2_4 hf H locs ls hP hD hS (lv_sub hl [0, 2, 3, 4] rfl)
          · have hf := if_p c7 hf
            refine lv_iload_n hx hb dX0_stepsFrom_37 rfl (lv_at hl 2 rfl) ?_
            refine lv_iconst (v := 1) hx hb dX0_stepsFrom_38 (by decide) ?_
            refine lv_aload_n hx hb dX0_stepsFrom_39 rfl (lv_at hl 3 rfl) ?_
            refine lv_iload_n hx hb dX0_stepsFrom_40 rfl (lv_at hl 1 rfl) ?_
            refine lv_iconst (v := 1) hx hb dX0_stepsFrom_41 (by decide) ?_
            obtain ⟨r8, hc9, hf⟩ := bd_inv hf
            refine xcV (As := [.int x3_4, .int 1]) (rest := [.int 1, .int x2_4]) (ws' := [(fa, .inr (0, [.int fst, .ref fb, .int fwy, .ref fc, .int fmk, .int fwt])), (fb, .inl (cI, 24, .inl fvl)), (fc, .inl (cI, 84, .inl fpt))]) ⟨hx, hb, hml, hown, hts⟩ (c_X0_part l D B adK adV cC cF cI cZ cM cS fa fst fb fwy fc fmk fwt fvl fpt x3_4 1  r8 hc9) (cwV 2 hts gX0_stepsFrom_X0_part rfl rfl rfl (by decide +kernel) ⟨Nat.le_of_ble_eq_true rfl, Nat.le_of_ble_eq_true rfl⟩) (va_recv hK hP (ci := 0) (q0 := 0) rfl rfl) hK hP hD hS hB hE [0, 1, 2] rfl rfl rfl rfl rfl hl.1 rfl (Nat.le_of_ble_eq_true rfl) dX0_stepsFrom_42 ⟨Nat.le_of_ble_eq_true rfl, Nat.le_of_ble_eq_true rfl⟩ (fun H locs hP hD hS => ?_)
            refine W.eq (g2 := F0 m 45 ls [.int r8, .int 1, .int x2_4]) rfl ?_
            refine lv_ishl hx hb dX0_stepsFrom_45 ?_
            refine lv_ior hx hb dX0_stepsFrom_46 ?_
            refine lv_istore_n (lv' := [(2, .int (x2_4 ||| ((1 : Int32) <<< (r8 &&& 31)))), (4, .int r2), (3, .int x3_4), (0, .ref fa), (1, .int x)]) hx hb dX0_stepsFrom_47 rfl hl (by decide) rfl (fun ls hl => ?_)
            refine lv_iinc (v := x3_4 + 1) (lv' := [(3, .int (x3_4 + 1)), (2, .int (x2_4 ||| ((1 : Int32) <<< (r8 &&& 31)))), (4, .int r2), (0, .ref fa), (1, .int x)]) hx hb dX0_stepsFrom_48 hl (k := 2) rfl rfl (by decide) rfl (fun ls hl => ?_)
            refine lv_goto (tgt := 4) hx hb dX0_stepsFrom_51 (by decide) ?_
            exact ih (x3_4 + 1) (x2_4 ||| ((1 : Int32) <<< (r8 &&& 31))) hf H locs ls hP hD hS (lv_sub hl [0, 1, 3, 4] rfl)
  unfold f_X0_stepsFrom at hf
  refine lv_iconst (v := 0) hx hb dX0_stepsFrom_0 (by decide) ?_
  refine lv_istore_n (lv' := [(2, .int 0), (0, .ref fa), (1, .int x)]) hx hb dX0_stepsFrom_1 rfl hl (by decide) rfl (fun ls hl => ?_)
  refine lv_iconst (v := 0) hx hb dX0_stepsFrom_2 (by decide) ?_
  refine lv_istore_n (lv' := [(3, .int 0), (2, .int 0), (0, .ref fa), (1, .int x)]) hx hb dX0_stepsFrom_3 rfl hl (by decide) rfl (fun ls hl => ?_)
  exact L4 20 0 0 hf H locs ls hP hD hS (lv_sub hl [0, 1, 2, 3] rfl)
set_option maxRecDepth 100000 in
set_option maxHeartbeats 4000000 in
theorem c_X0_copyFrom (l : Launch) (D : va_G) (B : Nat) (adK adV : Nat → Nat) (cC cF cI cZ cM cS : ClassId) (fa : Nat) (fst : Int32) (fb : Nat) (fwy : Int32) (fc : Nat) (fmk : Int32) (fwt : Int32) (fvl : Nat → Int32) (fpt : Nat → Int32) (ga : Nat) (gst : Int32) (gb : Nat) (gwy : Int32) (gc : Nat) (gmk : Int32) (gwt : Int32) (gvl : Nat → Int32) (gpt : Nat → Int32) (zz : (Nat → Int32) × (Nat → Int32) × Int32 × Int32 × Int32 × Int32) (hf : f_X0_copyFrom fvl fpt gst gwy gmk gwt gvl gpt = some zz) : Ct l yX0_copyFrom wsX0_copyFrom { frames := 1, cells := 0, slots := 0, locals := 68 } D B adK adV (tysX cC cF cI cZ cM cS) [.ref fa, .ref ga] [(fa, .inr (0, [.int fst, .ref fb, .int fwy, .ref fc, .int fmk, .int fwt])), (fb, .inl (cI, 24, .inl fvl)), (fc, .inl (cI, 84, .inl fpt)), (ga, .inr (0, [.int gst, .ref gb, .int gwy, .ref gc, .int gmk, .int gwt])), (gb, .inl (cI, 24, .inl gvl)), (gc, .inl (cI, 84, .inl gpt))] [(fa, .inr (0, [.int zz.2.2.1, .ref fb, .int zz.2.2.2.1, .ref fc, .int zz.2.2.2.2.1, .int zz.2.2.2.2.2])), (fb, .inl (cI, 24, .inl zz.1)), (fc, .inl (cI, 84, .inl zz.2.1)), (ga, .inr (0, [.int gst, .ref gb, .int gwy, .ref gc, .int gmk, .int gwt])), (gb, .inl (cI, 24, .inl gvl)), (gc, .inl (cI, 84, .inl gpt))] none := by
  refine Ct.ofW (cc := cX0_copyFrom) (maxL := 2) (ret := none) (by decide) rfl (Nat.le_of_ble_eq_true rfl) ?_
  intro p e s m args below meth c hx hb hr hml hts hown hlocks hnm hK hE A Q hQ hB H locs ls hP hD hS hl
  have hl : lv_has ls 2 [(0, .ref fa), (1, .ref ga)] := hl
  have w0 : ∀ w ∈ u_ws RX0 TX0 6, w ∈ wsX0_copyFrom := by decide +kernel
  have w1 := hts (.fieldLink RX0 22 "MotionStates$Figure" "states" "I") (by decide +kernel)
  have w2 := hts (.fieldLink RX0 9 "MotionStates$Figure" "values" "[I") (by decide +kernel)
  have w3 := hts (.methodLink RX0 25 arraycopyName) (by decide +kernel)
  have w4 := hts (.native arraycopyName) (by decide +kernel)
  have w5 := hts (.static arraycopyName) (by decide +kernel)
  have w6 := hts (.initialized "java/lang/System") (by decide +kernel)
  have w7 := hts (.fieldLink RX0 31 "MotionStates$Figure" "ways" "I") (by decide +kernel)
  have w8 := hts (.fieldLink RX0 15 "MotionStates$Figure" "wayParts" "[I") (by decide +kernel)
  have w9 := hts (.fieldLink RX0 34 "MotionStates$Figure" "mask" "I") (by decide +kernel)
  have w10 := hts (.fieldLink RX0 18 "MotionStates$Figure" "weight" "I") (by decide +kernel)
  unfold f_X0_copyFrom at hf
  refine lv_aload_n hx hb dX0_copyFrom_0 rfl (lv_at hl 0 rfl) ?_
  refine lv_aload_n hx hb dX0_copyFrom_1 rfl (lv_at hl 1 rfl) ?_
  refine va_get (D := D) (ci := 0) (v := .int gst) (C := RX0) (T := TX0) (N := 6) hx hb hts w0 hown hK hP 3 rfl rfl 0 (by decide) w1 (fun _ h9 => h9) rfl dX0_copyFrom_2 ?_
  refine va_put (D := D) (ci := 0) (v := .int gst) (ty := .int) (C := RX0) (T := TX0) (N := 6) hx hb hts w0 tyX0 tyX0_ok nmX0 hown hK hP hD hS 0 rfl rfl 0 (by decide) w1 (fun _ h9 => h9) rfl (by decide +kernel) rfl rfl (Nat.le_of_ble_eq_true rfl) dX0_copyFrom_5 (fun H locs hP hD hS => ?_)
  have hP : va_P D vwCl [(fa, .inr (0, [.int gst, .ref fb, .int fwy, .ref fc, .int fmk, .int fwt])), (fb, .inl (cI, 24, .inl fvl)), (fc, .inl (cI, 84, .inl fpt)), (ga, .inr (0, [.int gst, .ref gb, .int gwy, .ref gc, .int gmk, .int gwt])), (gb, .inl (cI, 24, .inl gvl)), (gc, .inl (cI, 84, .inl gpt))] H := hP
  have hD : va_D A [(fa, .inr (0, [.int gst, .ref fb, .int fwy, .ref fc, .int fmk, .int fwt])), (fb, .inl (cI, 24, .inl fvl)), (fc, .inl (cI, 84, .inl fpt)), (ga, .inr (0, [.int gst, .ref gb, .int gwy, .ref gc, .int gmk, .int gwt])), (gb, .inl (cI, 24, .inl gvl)), (gc, .inl (cI, 84, .inl gpt))] := hD
  refine lv_aload_n hx hb dX0_copyFrom_8 rfl (lv_at hl 1 rfl) ?_
  refine va_get (D := D) (ci := 0) (v := .ref gb) (C := RX0) (T := TX0) (N := 6) hx hb hts w0 hown hK hP 3 rfl rfl 1 (by decide) w2 (fun _ h9 => h9) rfl dX0_copyFrom_9 ?_
  refine lv_iconst (v := 0) hx hb dX0_copyFrom_12 (by decide) ?_
  refine lv_aload_n hx hb dX0_copyFrom_13 rfl (lv_at hl 0 rfl) ?_
  refine va_get (D := D) (ci := 0) (v := .ref fb) (C := RX0) (T := TX0) (N := 6) hx hb hts w0 hown hK hP 0 rfl rfl 1 (by decide) w2 (fun _ h9 => h9) rfl dX0_copyFrom_14 ?_
  refine lv_iconst (v := 0) hx hb dX0_copyFrom_17 (by decide) ?_
  refine lv_aload_n hx hb dX0_copyFrom_18 rfl (lv_at hl 0 rfl) ?_
  refine va_get (D := D) (ci := 0) (v := .ref fb) (C := RX0) (T := TX0) (N := 6) hx hb hts w0 hown hK hP 0 rfl rfl 1 (by decide) w2 (fun _ h9 => h9) rfl dX0_copyFrom_19 ?_
  refine va_alen (v := 24) hx hb hK hP 1 2 rfl rfl rfl dX0_copyFrom_22 ?_
  refine va_copyi hx hb (hml.trans hl.1.symm) hown w3 w4 w5 w6 hK hP hD hS 4 1 2 2 rfl rfl rfl rfl rfl (by decide) (by decide) (by decide) (by decide) (by decide) (fun _ _ => rfl) (Nat.le_of_ble_eq_true rfl) (Nat.le_of_ble_eq_true rfl) dX0_copyFrom_23 (fun H locs hP hD hS => ?_)
  have hP : va_P D vwCl [(fa, .inr (0, [.int gst, .ref fb, .int fwy, .ref fc, .int fmk, .int fwt])), (fb, .inl (cI, 24, .inl (va_cpy gvl fvl 0 0 24))), (fc, .inl (cI, 84, .inl fpt)), (ga, .inr (0, [.int gst, .ref gb, .int gwy, .ref gc, .int gmk, .int gwt])), (gb, .inl (cI, 24, .inl gvl)), (gc, .inl (cI, 84, .inl gpt))] H := hP
  have hD : va_D A [(fa, .inr (0, [.int gst, .ref fb, .int fwy, .ref fc, .int fmk, .int fwt])), (fb, .inl (cI, 24, .inl (va_cpy gvl fvl 0 0 24))), (fc, .inl (cI, 84, .inl fpt)), (ga, .inr (0, [.int gst, .ref gb, .int gwy, .ref gc, .int gmk, .int gwt])), (gb, .inl (cI, 24, .inl gvl)), (gc, .inl (cI, 84, .inl gpt))] := hD
  refine lv_aload_n hx hb dX0_copyFrom_26 rfl (lv_at hl 0 rfl) ?_
  refine lv_aload_n hx hb dX0_copyFrom_27 rfl (lv_at hl 1 rfl) ?_
  refine va_get (D := D) (ci := 0) (v := .int gwy) (C := RX0) (T := TX0) (N := 6) hx hb hts w0 hown hK hP 3 rfl rfl 2 (by decide) w7 (fun _ h9 => h9) rfl dX0_copyFrom_28 ?_
  refine va_put (D := D) (ci := 0) (v := .int gwy) (ty := .int) (C := RX0) (T := TX0) (N := 6) hx hb hts w0 tyX0 tyX0_ok nmX0 hown hK hP hD hS 0 rfl rfl 2 (by decide) w7 (fun _ h9 => h9) rfl (by decide +kernel) rfl rfl (Nat.le_of_ble_eq_true rfl) dX0_copyFrom_31 (fun H locs hP hD hS => ?_)
  have hP : va_P D vwCl [(fa, .inr (0, [.int gst, .ref fb, .int gwy, .ref fc, .int fmk, .int fwt])), (fb, .inl (cI, 24, .inl (va_cpy gvl fvl 0 0 24))), (fc, .inl (cI, 84, .inl fpt)), (ga, .inr (0, [.int gst, .ref gb, .int gwy, .ref gc, .int gmk, .int gwt])), (gb, .inl (cI, 24, .inl gvl)), (gc, .inl (cI, 84, .inl gpt))] H := hP
  have hD : va_D A [(fa, .inr (0, [.int gst, .ref fb, .int gwy, .ref fc, .int fmk, .int fwt])), (fb, .inl (cI, 24, .inl (va_cpy gvl fvl 0 0 24))), (fc, .inl (cI, 84, .inl fpt)), (ga, .inr (0, [.int gst, .ref gb, .int gwy, .ref gc, .int gmk, .int gwt])), (gb, .inl (cI, 24, .inl gvl)), (gc, .inl (cI, 84, .inl gpt))] := hD
  refine lv_aload_n hx hb dX0_copyFrom_34 rfl (lv_at hl 1 rfl) ?_
  refine va_get (D := D) (ci := 0) (v := .ref gc) (C := RX0) (T := TX0) (N := 6) hx hb hts w0 hown hK hP 3 rfl rfl 3 (by decide) w8 (fun _ h9 => h9) rfl dX0_copyFrom_35 ?_
  refine lv_iconst (v := 0) hx hb dX0_copyFrom_38 (by decide) ?_
  refine lv_aload_n hx hb dX0_copyFrom_39 rfl (lv_at hl 0 rfl) ?_
  refine va_get (D := D) (ci := 0) (v := .ref fc) (C := RX0) (T := TX0) (N := 6) hx hb hts w0 hown hK hP 0 rfl rfl 3 (by decide) w8 (fun _ h9 => h9) rfl dX0_copyFrom_40 ?_
  refine lv_iconst (v := 0) hx hb dX0_copyFrom_43 (by decide) ?_
  refine lv_aload_n hx hb dX0_copyFrom_44 rfl (lv_at hl 0 rfl) ?_
  refine va_get (D := D) (ci := 0) (v := .ref fc) (C := RX0) (T := TX0) (N := 6) hx hb hts w0 hown hK hP 0 rfl rfl 3 (by decide) w8 (fun _ h9 => h9) rfl dX0_copyFrom_45 ?_
  refine va_alen (v := 84) hx hb hK hP 2 2 rfl rfl rfl dX0_copyFrom_48 ?_
  refine va_copyi hx hb (hml.trans hl.1.symm) hown w3 w4 w5 w6 hK hP hD hS 5 2 2 2 rfl rfl rfl rfl rfl (by decide) (by decide) (by decide) (by decide) (by decide) (fun _ _ => rfl) (Nat.le_of_ble_eq_true rfl) (Nat.le_of_ble_eq_true rfl) dX0_copyFrom_49 (fun H locs hP hD hS => ?_)
  have hP : va_P D vwCl [(fa, .inr (0, [.int gst, .ref fb, .int gwy, .ref fc, .int fmk, .int fwt])), (fb, .inl (cI, 24, .inl (va_cpy gvl fvl 0 0 24))), (fc, .inl (cI, 84, .inl (va_cpy gpt fpt 0 0 84))), (ga, .inr (0, [.int gst, .ref gb, .int gwy, .ref gc, .int gmk, .int gwt])), (gb, .inl (cI, 24, .inl gvl)), (gc, .inl (cI, 84, .inl gpt))] H := hP
  have hD : va_D A [(fa, .inr (0, [.int gst, .ref fb, .int gwy, .ref fc, .int fmk, .int fwt])), (fb, .inl (cI, 24, .inl (va_cpy gvl fvl 0 0 24))), (fc, .inl (cI, 84, .inl (va_cpy gpt fpt 0 0 84))), (ga, .inr (0, [.int gst, .ref gb, .int gwy, .ref gc, .int gmk, .int gwt])), (gb, .inl (cI, 24, .inl gvl)), (gc, .inl (cI, 84, .inl gpt))] := hD
  refine lv_aload_n hx hb dX0_copyFrom_52 rfl (lv_at hl 0 rfl) ?_
  refine lv_aload_n hx hb dX0_copyFrom_53 rfl (lv_at hl 1 rfl) ?_
  refine va_get (D := D) (ci := 0) (v := .int gmk) (C := RX0) (T := TX0) (N := 6) hx hb hts w0 hown hK hP 3 rfl rfl 4 (by decide) w9 (fun _ h9 => h9) rfl dX0_copyFrom_54 ?_
  refine va_put (D := D) (ci := 0) (v := .int gmk) (ty := .int) (C := RX0) (T := TX0) (N := 6) hx hb hts w0 tyX0 tyX0_ok nmX0 hown hK hP hD hS 0 rfl rfl 4 (by decide) w9 (fun _ h9 => h9) rfl (by decide +kernel) rfl rfl (Nat.le_of_ble_eq_true rfl) dX0_copyFrom_57 (fun H locs hP hD hS => ?_)
  have hP : va_P D vwCl [(fa, .inr (0, [.int gst, .ref fb, .int gwy, .ref fc, .int gmk, .int fwt])), (fb, .inl (cI, 24, .inl (va_cpy gvl fvl 0 0 24))), (fc, .inl (cI, 84, .inl (va_cpy gpt fpt 0 0 84))), (ga, .inr (0, [.int gst, .ref gb, .int gwy, .ref gc, .int gmk, .int gwt])), (gb, .inl (cI, 24, .inl gvl)), (gc, .inl (cI, 84, .inl gpt))] H := hP
  have hD : va_D A [(fa, .inr (0, [.int gst, .ref fb, .int gwy, .ref fc, .int gmk, .int fwt])), (fb, .inl (cI, 24, .inl (va_cpy gvl fvl 0 0 24))), (fc, .inl (cI, 84, .inl (va_cpy gpt fpt 0 0 84))), (ga, .inr (0, [.int gst, .ref gb, .int gwy, .ref gc, .int gmk, .int gwt])), (gb, .inl (cI, 24, .inl gvl)), (gc, .inl (cI, 84, .inl gpt))] := hD
  refine lv_aload_n hx hb dX0_copyFrom_60 rfl (lv_at hl 0 rfl) ?_
  refine lv_aload_n hx hb dX0_copyFrom_61 rfl (lv_at hl 1 rfl) ?_
  refine va_get (D := D) (ci := 0) (v := .int gwt) (C := RX0) (T := TX0) (N := 6) hx hb hts w0 hown hK hP 3 rfl rfl 5 (by decide) w10 (fun _ h9 => h9) rfl dX0_copyFrom_62 ?_
  refine va_put (D := D) (ci := 0) (v := .int gwt) (ty := .int) (C := RX0) (T := TX0) (N := 6) hx hb hts w0 tyX0 tyX0_ok nmX0 hown hK hP hD hS 0 rfl rfl 5 (by decide) w10 (fun _ h9 => h9) rfl (by decide +kernel) rfl rfl (Nat.le_of_ble_eq_true rfl) dX0_copyFrom_65 (fun H locs hP hD hS => ?_)
  have hP : va_P D vwCl [(fa, .inr (0, [.int gst, .ref fb, .int gwy, .ref fc, .int gmk, .int gwt])), (fb, .inl (cI, 24, .inl (va_cpy gvl fvl 0 0 24))), (fc, .inl (cI, 84, .inl (va_cpy gpt fpt 0 0 84))), (ga, .inr (0, [.int gst, .ref gb, .int gwy, .ref gc, .int gmk, .int gwt])), (gb, .inl (cI, 24, .inl gvl)), (gc, .inl (cI, 84, .inl gpt))] H := hP
  have hD : va_D A [(fa, .inr (0, [.int gst, .ref fb, .int gwy, .ref fc, .int gmk, .int gwt])), (fb, .inl (cI, 24, .inl (va_cpy gvl fvl 0 0 24))), (fc, .inl (cI, 84, .inl (va_cpy gpt fpt 0 0 84))), (ga, .inr (0, [.int gst, .ref gb, .int gwy, .ref gc, .int gmk, .int gwt])), (gb, .inl (cI, 24, .inl gvl)), (gc, .inl (cI, 84, .inl gpt))] := hD
  have h1 := Option.some.inj hf
  subst h1
  rw [hQ]
  exact W.vret hx hb hr (fun t ht hW => qEnd hP hS ht) hS.2.2 dX0_copyFrom_68
