set_option maxRecDepth 100000 in
set_option maxHeartbeats 4000000 in
theorem c_X5_layer (l : Launch) (D : va_G) (B : Nat) (adK adV : Nat → Nat) (cC cF cI cZ cM cS : ClassId) (xa : Nat) (ta : Nat) (fa : Nat) (da : Nat) (na : Nat) (ga : Nat) (xp : Nat) (xs : Nat) (xi : Nat) (xh : Nat) (np : Int32) (un : Int32) (fst : Int32) (fb : Nat) (fwy : Int32) (fc : Nat) (fmk : Int32) (fwt : Int32) (fvl : Nat → Int32) (fpt : Nat → Int32) (nla : Nat) (nua : Nat) (nn : Nat) (ntr : Int32) (nlst : Int32) (nlla : Int32) (nlbw : Int32) (nlbf : Int32) (nlbd : Int32) (nlb : Nat) (nlc : Nat) (nlsh : Nat → UInt32) (nlsb : Nat → UInt32) (nust : Int32) (nula : Int32) (nubw : Int32) (nubf : Int32) (nubd : Int32) (nub : Nat) (nuc : Nat) (nush : Nat → UInt32) (nusb : Nat → UInt32) (nnm : Nat → Int32) (i : Int32) (k : Int32) (zz : Int32) (hf : f_X5_layer fst nlst nlla nlbw nlbf nlbd nust nula nubw nubf nubd i k = some zz) : Ct l yX5_layer wsX5_layer { frames := 2, cells := 0, slots := 0, locals := 41 } D B adK adV (tysX cC cF cI cZ cM cS) [.ref xa, .int i, .int k] [(xa, .inr (5, [.ref ta, .ref fa, .ref da, .ref na, .ref ga, .ref xp, .ref xs, .ref xi, .ref xh, .int np, .int un])), (fa, .inr (0, [.int fst, .ref fb, .int fwy, .ref fc, .int fmk, .int fwt])), (fb, .inl (cI, 24, .inl fvl)), (fc, .inl (cI, 84, .inl fpt)), (na, .inr (2, [.ref nla, .ref nua, .ref nn, .int ntr])), (nla, .inr (1, [.int nlst, .int nlla, .int nlbw, .int nlbf, .int nlbd, .ref nlb, .ref nlc])), (nlb, .inl (cF, 6, .inr (.inr (.inl nlsh)))), (nlc, .inl (cF, 6, .inr (.inr (.inl nlsb)))), (nua, .inr (1, [.int nust, .int nula, .int nubw, .int nubf, .int nubd, .ref nub, .ref nuc])), (nub, .inl (cF, 6, .inr (.inr (.inl nush)))), (nuc, .inl (cF, 6, .inr (.inr (.inl nusb)))), (nn, .inl (cI, 3, .inl nnm))] [(xa, .inr (5, [.ref ta, .ref fa, .ref da, .ref na, .ref ga, .ref xp, .ref xs, .ref xi, .ref xh, .int np, .int un])), (fa, .inr (0, [.int fst, .ref fb, .int fwy, .ref fc, .int fmk, .int fwt])), (fb, .inl (cI, 24, .inl fvl)), (fc, .inl (cI, 84, .inl fpt)), (na, .inr (2, [.ref nla, .ref nua, .ref nn, .int ntr])), (nla, .inr (1, [.int nlst, .int nlla, .int nlbw, .int nlbf, .int nlbd, .ref nlb, .ref nlc])), (nlb, .inl (cF, 6, .inr (.inr (.inl nlsh)))), (nlc, .inl (cF, 6, .inr (.inr (.inl nlsb)))), (nua, .inr (1, [.int nust, .int nula, .int nubw, .int nubf, .int nubd, .ref nub, .ref nuc])), (nub, .inl (cF, 6, .inr (.inr (.inl nush)))), (nuc, .inl (cF, 6, .inr (.inr (.inl nusb)))), (nn, .inl (cI, 3, .inl nnm))] (some (.int zz)) := by
  refine Ct.ofW (cc := cX5_layer) (maxL := 3) (ret := (some .int)) (by decide) rfl (Nat.le_of_ble_eq_true rfl) ?_
  intro p e s m args below meth c hx hb hr hml hts hown hlocks hnm hK hE A Q hQ hB H locs ls hP hD hS hl
  have hl : lv_has ls 3 [(0, .ref xa), (1, .int i), (2, .int k)] := hl
  have w0 : ∀ w ∈ u_ws RX5 TX5 11, w ∈ wsX5_layer := by decide +kernel
  have w1 := hts (.fieldLink RX5 19 "MotionStates" "told" "LMotionStates$Figure;") (by decide +kernel)
  have w2 : ∀ w ∈ u_ws RX0 TX0 6, w ∈ wsX5_layer := by decide +kernel
  have w3 : (Cond.fieldLinkNest "MotionStates" 110 "MotionStates$Figure" "states" "I" "MotionStates").before args s = true := va_Nw.use rfl (hE.1 ("MotionStates", 110, "MotionStates$Figure", "states", "I", "MotionStates") (by decide +kernel))
  have w4 := hts (.fieldLink RX5 29 "MotionStates" "now" "LMotionStates$Motion;") (by decide +kernel)
  unfold f_X5_layer at hf
  refine lv_iload_n hx hb dX5_layer_0 rfl (lv_at hl 1 rfl) ?_
  obtain ⟨r1, hc2, hf⟩ := bd_inv hf
  refine xcS (As := [.int i]) (rest := []) (ws' := [(xa, .inr (5, [.ref ta, .ref fa, .ref da, .ref na, .ref ga, .ref xp, .ref xs, .ref xi, .ref xh, .int np, .int un])), (fa, .inr (0, [.int fst, .ref fb, .int fwy, .ref fc, .int fmk, .int fwt])), (fb, .inl (cI, 24, .inl fvl)), (fc, .inl (cI, 84, .inl fpt)), (na, .inr (2, [.ref nla, .ref nua, .ref nn, .int ntr])), (nla, .inr (1, [.int nlst, .int nlla, .int nlbw, .int nlbf, .int nlbd, .ref nlb, .ref nlc])), (nlb, .inl (cF, 6, .inr (.inr (.inl nlsh)))), (nlc, .inl (cF, 6, .inr (.inr (.inl nlsb)))), (nua, .inr (1, [.int nust, .int nula, .int nubw, .int nubf, .int nubd, .ref nub, .ref nuc])), (nub, .inl (cF, 6, .inr (.inr (.inl nush)))), (nuc, .inl (cF, 6, .inr (.inr (.inl nusb)))), (nn, .inl (cI, 3, .inl nnm))]) ⟨hx, hb, hml, hown, hts⟩ (c_X5_isLayer l D B adK adV cC cF cI cZ cM cS i  r1 hc2) (va_cwS 1 hts gX5_layer_X5_isLayer rfl rfl rfl (by decide +kernel) ⟨Nat.le_of_ble_eq_true rfl, Nat.le_of_ble_eq_true rfl⟩) hK hP hD hS hB hE [] rfl rfl rfl rfl rfl hl.1 rfl (Nat.le_of_ble_eq_true rfl) dX5_layer_1 ⟨Nat.le_of_ble_eq_true rfl, Nat.le_of_ble_eq_true rfl⟩ (fun H locs hP hD hS => ?_)
  refine W.eq (g2 := F0 m 4 ls [.int r1]) rfl ?_
  refine lv_if_ne (tgt := 10) hx hb dX5_layer_4 (by decide) (fun c3 => ?_) (fun c3 => ?_)
  · have hf := if_n c3 hf
    refine lv_iload_n hx hb dX5_layer_10 rfl (lv_at hl 2 rfl) ?_
    refine lv_if_lt (tgt := 19) hx hb dX5_layer_11 (by decide) (fun c4 => ?_) (fun c4 => ?_)
    · have hf := if_p c4 hf
      refine lv_bipush (v := (-3)) hx hb dX5_layer_19 (by decide) ?_
      have h1 := Option.some.inj hf
      subst h1
      rw [hQ]
      exact W.iret (v := (-3)) hx hb hr (fun t ht hW => qEnd hP hS ht) hS.2.2 dX5_layer_21
    · have hf := if_n c4 hf
      refine lv_iload_n hx hb dX5_layer_14 rfl (lv_at hl 2 rfl) ?_
      refine lv_iconst (v := 5) hx hb dX5_layer_15 (by decide) ?_
      refine lv_icmp_le (tgt := 22) hx hb dX5_layer_16 (by decide) (fun c5 => ?_) (fun c5 => ?_)
      · have hf := if_p c5 hf
        refine lv_aload_n hx hb dX5_layer_22 rfl (lv_at hl 0 rfl) ?_
        refine va_get (D := D) (ci := 5) (v := .ref fa) (C := RX5) (T := TX5) (N := 11) hx hb hts w0 hown hK hP 0 rfl rfl 1 (by decide) w1 (fun _ h9 => h9) rfl dX5_layer_23 ?_
        refine va_getN (D := D) (ci := 0) (v := .int fst) (C := RX0) (T := TX0) (N := 6) hx hb hts w2 hown hK hP 1 rfl rfl 0 (by decide) w3 (fun _ h9 => h9) rfl dX5_layer_26 ?_
        refine lv_if_ne (tgt := 35) hx hb dX5_layer_29 (by decide) (fun c6 => ?_) (fun c6 => ?_)
        · have hf := if_n c6 hf
          refine lv_aload_n hx hb dX5_layer_35 rfl (lv_at hl 0 rfl) ?_
          refine va_get (D := D) (ci := 5) (v := .ref na) (C := RX5) (T := TX5) (N := 11) hx hb hts w0 hown hK hP 0 rfl rfl 3 (by decide) w4 (fun _ h9 => h9) rfl dX5_layer_36 ?_
          refine lv_iload_n hx hb dX5_layer_39 rfl (lv_at hl 1 rfl) ?_
          by_cases c7 : i = 0
          · have hf := if_p c7 hf
            refine W.eq (g2 := F0 m 40 ls [.int 0, .ref na]) (by rw [c7]) ?_
            obtain ⟨_, hc8, hf⟩ := bd_inv hf
            refine xcV (As := [.int 0]) (rest := []) (ws' := [(xa, .inr (5, [.ref ta, .ref fa, .ref da, .ref na, .ref ga, .ref xp, .ref xs, .ref xi, .ref xh, .int np, .int un])), (fa, .inr (0, [.int fst, .ref fb, .int fwy, .ref fc, .int fmk, .int fwt])), (fb, .inl (cI, 24, .inl fvl)), (fc, .inl (cI, 84, .inl fpt)), (na, .inr (2, [.ref nla, .ref nua, .ref nn, .int ntr])), (nla, .inr (1, [.int nlst, .int nlla, .int nlbw, .int nlbf, .int nlbd, .ref nlb, .ref nlc])), (nlb, .inl (cF, 6, .inr (.inr (.inl nlsh)))), (nlc, .inl (cF, 6, .inr (.inr (.inl nlsb)))), (nua, .inr (1, [.int nust, .int nula, .int nubw, .int nubf, .int nubd, .ref nub, .ref nuc])), (nub, .inl (cF, 6, .inr (.inr (.inl nush)))), (nuc, .inl (cF, 6, .inr (.inr (.inl nusb)))), (nn, .inl (cI, 3, .inl nnm))]) ⟨hx, hb, hml, hown, hts⟩ (c_X2_layerAt_0 l D B adK adV cC cF cI cZ cM cS na nla nua nn ntr nnm   hc8) (cwV 1 hts gX5_layer_X2_layerAt rfl rfl rfl (by decide +kernel) ⟨Nat.le_of_ble_eq_true rfl, Nat.le_of_ble_eq_true rfl⟩) (va_recv hK hP (ci := 2) (q0 := 4) rfl rfl) hK hP hD hS hB hE [4, 11] rfl rfl rfl rfl rfl hl.1 rfl (Nat.le_of_ble_eq_true rfl) dX5_layer_40 ⟨Nat.le_of_ble_eq_true rfl, Nat.le_of_ble_eq_true rfl⟩ (fun H locs hP hD hS => ?_)
            refine W.eq (g2 := F0 m 43 ls [.ref nla]) rfl ?_
            refine lv_iload_n hx hb dX5_layer_43 rfl (lv_at hl 2 rfl) ?_
            obtain ⟨r9, hc10, hf⟩ := bd_inv hf
            refine xcV (As := [.int k]) (rest := []) (ws' := [(xa, .inr (5, [.ref ta, .ref fa, .ref da, .ref na, .ref ga, .ref xp, .ref xs, .ref xi, .ref xh, .int np, .int un])), (fa, .inr (0, [.int fst, .ref fb, .int fwy, .ref fc, .int fmk, .int fwt])), (fb, .inl (cI, 24, .inl fvl)), (fc, .inl (cI, 84, .inl fpt)), (na, .inr (2, [.ref nla, .ref nua, .ref nn, .int ntr])), (nla, .inr (1, [.int nlst, .int nlla, .int nlbw, .int nlbf, .int nlbd, .ref nlb, .ref nlc])), (nlb, .inl (cF, 6, .inr (.inr (.inl nlsh)))), (nlc, .inl (cF, 6, .inr (.inr (.inl nlsb)))), (nua, .inr (1, [.int nust, .int nula, .int nubw, .int nubf, .int nubd, .ref nub, .ref nuc])), (nub, .inl (cF, 6, .inr (.inr (.inl nush)))), (nuc, .inl (cF, 6, .inr (.inr (.inl nusb)))), (nn, .inl (cI, 3, .inl nnm))]) ⟨hx, hb, hml, hown, hts⟩ (c_X1_part l D B adK adV cC cF cI cZ cM cS nla nlst nlla nlbw nlbf nlbd nlb nlc nlsh nlsb k  r9 hc10) (cwV 1 hts gX5_layer_X1_part rfl rfl rfl (by decide +kernel) ⟨Nat.le_of_ble_eq_true rfl, Nat.le_of_ble_eq_true rfl⟩) (va_recv hK hP (ci := 1) (q0 := 5) rfl rfl) hK hP hD hS hB hE [5, 6, 7] rfl rfl rfl rfl rfl hl.1 rfl (Nat.le_of_ble_eq_true rfl) dX5_layer_44 ⟨Nat.le_of_ble_eq_true rfl, Nat.le_of_ble_eq_true rfl⟩ (fun H locs hP hD hS => ?_)
            refine W.eq (g2 := F0 m 47 ls [.int r9]) rfl ?_
            have h1 := Option.some.inj hf
            subst h1
            rw [hQ]
            exact W.iret (v := r9) hx hb hr (fun t ht hW => qEnd hP hS ht) hS.2.2 dX5_layer_47
          · have hf := if_n c7 hf
            by_cases c11 : i = 1
            · have hf := if_p c11 hf
              refine W.eq (g2 := F0 m 40 ls [.int 1, .ref na]) (by rw [c11]) ?_
              obtain ⟨_, hc12, hf⟩ := bd_inv hf
              refine xcV (As := [.int 1]) (rest := []) (ws' := [(xa, .inr (5, [.ref ta, .ref fa, .ref da, .ref na, .ref ga, .ref xp, .ref xs, .ref xi, .ref xh, .int np, .int un])), (fa, .inr (0, [.int fst, .ref fb, .int fwy, .ref fc, .int fmk, .int fwt])), (fb, .inl (cI, 24, .inl fvl)), (fc, .inl (cI, 84, .inl fpt)), (na, .inr (2, [.ref nla, .ref nua, .ref nn, .int ntr])), (nla, .inr (1, [.int nlst, .int nlla, .int nlbw, .int nlbf, .int nlbd, .ref nlb, .ref nlc])), (nlb, .inl (cF, 6, .inr (.inr (.inl nlsh)))), (nlc, .inl (cF, 6, .inr (.inr (.inl nlsb)))), (nua, .inr (1, [.int nust, .int nula, .int nubw, .int nubf, .int nubd, .ref nub, .ref nuc])), (nub, .inl (cF, 6, .inr (.inr (.inl nush)))), (nuc, .inl (cF, 6, .inr (.inr (.inl nusb)))), (nn, .inl (cI, 3, .inl nnm))]) ⟨hx, hb, hml, hown, hts⟩ (c_X2_layerAt_1 l D B adK adV cC cF cI cZ cM cS na nla nua nn ntr nnm   hc12) (cwV 1 hts gX5_layer_X2_layerAt rfl rfl rfl (by decide +kernel) ⟨Nat.le_of_ble_eq_true rfl, Nat.le_of_ble_eq_true rfl⟩) (va_recv hK hP (ci := 2) (q0 := 4) rfl rfl) hK hP hD hS hB hE [4, 11] rfl rfl rfl rfl rfl hl.1 rfl (Nat.le_of_ble_eq_true rfl) dX5_layer_40 ⟨Nat.le_of_ble_eq_true rfl, Nat.le_of_ble_eq_true rfl⟩ (fun H locs hP hD hS => ?_)
              refine W.eq (g2 := F0 m 43 ls [.ref nua]) rfl ?_
              refine lv_iload_n hx hb dX5_layer_43 rfl (lv_at hl 2 rfl) ?_
              obtain ⟨r13, hc14, hf⟩ := bd_inv hf
              refine xcV (As := [.int k]) (rest := []) (ws' := [(xa, .inr (5, [.ref ta, .ref fa, .ref da, .ref na, .ref ga, .ref xp, .ref xs, .ref xi, .ref xh, .int np, .int un])), (fa, .inr (0, [.int fst, .ref fb, .int fwy, .ref fc, .int fmk, .int fwt])), (fb, .inl (cI, 24, .inl fvl)), (fc, .inl (cI, 84, .inl fpt)), (na, .inr (2, [.ref nla, .ref nua, .ref nn, .int ntr])), (nla, .inr (1, [.int nlst, .int nlla, .int nlbw, .int nlbf, .int nlbd, .ref nlb, .ref nlc])), (nlb, .inl (cF, 6, .inr (.inr (.inl nlsh)))), (nlc, .inl (cF, 6, .inr (.inr (.inl nlsb)))), (nua, .inr (1, [.int nust, .int nula, .int nubw, .int nubf, .int nubd, .ref nub, .ref nuc])), (nub, .inl (cF, 6, .inr (.inr (.inl nush)))), (nuc, .inl (cF, 6, .inr (.inr (.inl nusb)))), (nn, .inl (cI, 3, .inl nnm))]) ⟨hx, hb, hml, hown, hts⟩ (c_X1_part l D B adK adV cC cF cI cZ cM cS nua nust nula nubw nubf nubd nub nuc nush nusb k  r13 hc14) (cwV 1 hts gX5_layer_X1_part rfl rfl rfl (by decide +kernel) ⟨Nat.le_of_ble_eq_true rfl, Nat.le_of_ble_eq_true rfl⟩) (va_recv hK hP (ci := 1) (q0 := 8) rfl rfl) hK hP hD hS hB hE [8, 9, 10] rfl rfl rfl rfl rfl hl.1 rfl (Nat.le_of_ble_eq_true rfl) dX5_layer_44 ⟨Nat.le_of_ble_eq_true rfl, Nat.le_of_ble_eq_true rfl⟩ (fun H locs hP hD hS => ?_)
              refine W.eq (g2 := F0 m 47 ls [.int r13]) rfl ?_
              have h1 := Option.some.inj hf
              subst h1
              rw [hQ]
              exact W.iret (v := r13) hx hb hr (fun t ht hW => qEnd hP hS ht) hS.2.2 dX5_layer_47
            · have hf := if_n c11 hf
              cases hf
        · have hf := if_p c6 hf
          refine lv_bipush (v := (-4)) hx hb dX5_layer_32 (by decide) ?_
          have h1 := Option.some.inj hf
          subst h1
          rw [hQ]
          exact W.iret (v := (-4)) hx hb hr (fun t ht hW => qEnd hP hS ht) hS.2.2 dX5_layer_34
      · have hf := if_n c5 hf
        refine lv_bipush (v := (-3)) hx hb dX5_layer_19 (by decide) ?_
        have h1 := Option.some.inj hf
        subst h1
        rw [hQ]
        exact W.iret (v := (-3)) hx hb hr (fun t ht hW => qEnd hP hS ht) hS.2.2 dX5_layer_21
  · have hf := if_p c3 hf
    refine lv_bipush (v := (-2)) hx hb dX5_layer_7 (by decide) ?_
    have h1 := Option.some.inj hf
    subst h1
    rw [hQ]
    exact W.iret (v := (-2)) hx hb hr (fun t ht hW => qEnd hP hS ht) hS.2.2 dX5_layer_9
set_option maxRecDepth 100000 in
set_option maxHeartbeats 4000000 in
theorem c_X5_share (l : Launch) (D : va_G) (B : Nat) (adK adV : Nat → Nat) (cC cF cI cZ cM cS : ClassId) (xa : Nat) (ta : Nat) (fa : Nat) (da : Nat) (na : Nat) (ga : Nat) (xp : Nat) (xs : Nat) (xi : Nat) (xh : Nat) (np : Int32) (un : Int32) (fst : Int32) (fb : Nat) (fwy : Int32) (fc : Nat) (fmk : Int32) (fwt : Int32) (fvl : Nat → Int32) (fpt : Nat → Int32) (nla : Nat) (nua : Nat) (nn : Nat) (ntr : Int32) (nlst : Int32) (nlla : Int32) (nlbw : Int32) (nlbf : Int32) (nlbd : Int32) (nlb : Nat) (nlc : Nat) (nlsh : Nat → UInt32) (nlsb : Nat → UInt32) (nust : Int32) (nula : Int32) (nubw : Int32) (nubf : Int32) (nubd : Int32) (nub : Nat) (nuc : Nat) (nush : Nat → UInt32) (nusb : Nat → UInt32) (nnm : Nat → Int32) (i : Int32) (k : Int32) (zz : Int32) (hf : f_X5_share fst nlsh nush i k = some zz) : Ct l yX5_share wsX5_share { frames := 1, cells := 0, slots := 0, locals := 21 } D B adK adV (tysX cC cF cI cZ cM cS) [.ref xa, .int i, .int k] [(xa, .inr (5, [.ref ta, .ref fa, .ref da, .ref na, .ref ga, .ref xp, .ref xs, .ref xi, .ref xh, .int np, .int un])), (fa, .inr (0, [.int fst, .ref fb, .int fwy, .ref fc, .int fmk, .int fwt])), (fb, .inl (cI, 24, .inl fvl)), (fc, .inl (cI, 84, .inl fpt)), (na, .inr (2, [.ref nla, .ref nua, .ref nn, .int ntr])), (nla, .inr (1, [.int nlst, .int nlla, .int nlbw, .int nlbf, .int nlbd, .ref nlb, .ref nlc])), (nlb, .inl (cF, 6, .inr (.inr (.inl nlsh)))), (nlc, .inl (cF, 6, .inr (.inr (.inl nlsb)))), (nua, .inr (1, [.int nust, .int nula, .int nubw, .int nubf, .int nubd, .ref nub, .ref nuc])), (nub, .inl (cF, 6, .inr (.inr (.inl nush)))), (nuc, .inl (cF, 6, .inr (.inr (.inl nusb)))), (nn, .inl (cI, 3, .inl nnm))] [(xa, .inr (5, [.ref ta, .ref fa, .ref da, .ref na, .ref ga, .ref xp, .ref xs, .ref xi, .ref xh, .int np, .int un])), (fa, .inr (0, [.int fst, .ref fb, .int fwy, .ref fc, .int fmk, .int fwt])), (fb, .inl (cI, 24, .inl fvl)), (fc, .inl (cI, 84, .inl fpt)), (na, .inr (2, [.ref nla, .ref nua, .ref nn, .int ntr])), (nla, .inr (1, [.int nlst, .int nlla, .int nlbw, .int nlbf, .int nlbd, .ref nlb, .ref nlc])), (nlb, .inl (cF, 6, .inr (.inr (.inl nlsh)))), (nlc, .inl (cF, 6, .inr (.inr (.inl nlsb)))), (nua, .inr (1, [.int nust, .int nula, .int nubw, .int nubf, .int nubd, .ref nub, .ref nuc])), (nub, .inl (cF, 6, .inr (.inr (.inl nush)))), (nuc, .inl (cF, 6, .inr (.inr (.inl nusb)))), (nn, .inl (cI, 3, .inl nnm))] (some (.int zz)) := by
  refine Ct.ofW (cc := cX5_share) (maxL := 3) (ret := (some .int)) (by decide) rfl (Nat.le_of_ble_eq_true rfl) ?_
  intro p e s m args below meth c hx hb hr hml hts hown hlocks hnm hK hE A Q hQ hB H locs ls hP hD hS hl
  have hl : lv_has ls 3 [(0, .ref xa), (1, .int i), (2, .int k)] := hl
  have w0 : ∀ w ∈ u_ws RX5 TX5 11, w ∈ wsX5_share := by decide +kernel
  have w1 := hts (.fieldLink RX5 29 "MotionStates" "now" "LMotionStates$Motion;") (by decide +kernel)
  have w2 : ∀ w ∈ u_ws RX1 TX1 7, w ∈ wsX5_share := by decide +kernel
  have w3 : (Cond.fieldLinkNest "MotionStates" 151 "MotionStates$Layer" "shares" "[F" "MotionStates").before args s = true := va_Nw.use rfl (hE.1 ("MotionStates", 151, "MotionStates$Layer", "shares", "[F", "MotionStates") (by decide +kernel))
  have w4 := hts (.constantFloat RX5 155 (1199570944)) (by decide +kernel)
  unfold f_X5_share at hf
  refine lv_iload_n hx hb dX5_share_0 rfl (lv_at hl 1 rfl) ?_
  obtain ⟨r1, hc2, hf⟩ := bd_inv hf
  refine xcS (As := [.int i]) (rest := []) (ws' := [(xa, .inr (5, [.ref ta, .ref fa, .ref da, .ref na, .ref ga, .ref xp, .ref xs, .ref xi, .ref xh, .int np, .int un])), (fa, .inr (0, [.int fst, .ref fb, .int fwy, .ref fc, .int fmk, .int fwt])), (fb, .inl (cI, 24, .inl fvl)), (fc, .inl (cI, 84, .inl fpt)), (na, .inr (2, [.ref nla, .ref nua, .ref nn, .int ntr])), (nla, .inr (1, [.int nlst, .int nlla, .int nlbw, .int nlbf, .int nlbd, .ref nlb, .ref nlc])), (nlb, .inl (cF, 6, .inr (.inr (.inl nlsh)))), (nlc, .inl (cF, 6, .inr (.inr (.inl nlsb)))), (nua, .inr (1, [.int nust, .int nula, .int nubw, .int nubf, .int nubd, .ref nub, .ref nuc])), (nub, .inl (cF, 6, .inr (.inr (.inl nush)))), (nuc, .inl (cF, 6, .inr (.inr (.inl nusb)))), (nn, .inl (cI, 3, .inl nnm))]) ⟨hx, hb, hml, hown, hts⟩ (c_X5_isLayer l D B adK adV cC cF cI cZ cM cS i  r1 hc2) (va_cwS 1 hts gX5_share_X5_isLayer rfl rfl rfl (by decide +kernel) ⟨Nat.le_of_ble_eq_true rfl, Nat.le_of_ble_eq_true rfl⟩) hK hP hD hS hB hE [] rfl rfl rfl rfl rfl hl.1 rfl (Nat.le_of_ble_eq_true rfl) dX5_share_1 ⟨Nat.le_of_ble_eq_true rfl, Nat.le_of_ble_eq_true rfl⟩ (fun H locs hP hD hS => ?_)
  refine W.eq (g2 := F0 m 4 ls [.int r1]) rfl ?_
  refine lv_if_eq (tgt := 15) hx hb dX5_share_4 (by decide) (fun c3 => ?_) (fun c3 => ?_)
  · have hf := if_p c3 hf
    refine lv_bipush (v := (-2)) hx hb dX5_share_15 (by decide) ?_
    have h1 := Option.some.inj hf
    subst h1
    rw [hQ]
    exact W.iret (v := (-2)) hx hb hr (fun t ht hW => qEnd hP hS ht) hS.2.2 dX5_share_17
  · have hf := if_n c3 hf
    refine lv_aload_n hx hb dX5_share_7 rfl (lv_at hl 0 rfl) ?_
    refine lv_iload_n hx hb dX5_share_8 rfl (lv_at hl 2 rfl) ?_
    obtain ⟨r4, hc5, hf⟩ := bd_inv hf
    refine xcV (As := [.int k]) (rest := []) (ws' := [(xa, .inr (5, [.ref ta, .ref fa, .ref da, .ref na, .ref ga, .ref xp, .ref xs, .ref xi, .ref xh, .int np, .int un])), (fa, .inr (0, [.int fst, .ref fb, .int fwy, .ref fc, .int fmk, .int fwt])), (fb, .inl (cI, 24, .inl fvl)), (fc, .inl (cI, 84, .inl fpt)), (na, .inr (2, [.ref nla, .ref nua, .ref nn, .int ntr])), (nla, .inr (1, [.int nlst, .int nlla, .int nlbw, .int nlbf, .int nlbd, .ref nlb, .ref nlc])), (nlb, .inl (cF, 6, .inr (.inr (.inl nlsh)))), (nlc, .inl (cF, 6, .inr (.inr (.inl nlsb)))), (nua, .inr (1, [.int nust, .int nula, .int nubw, .int nubf, .int nubd, .ref nub, .ref nuc])), (nub, .inl (cF, 6, .inr (.inr (.inl nush)))), (nuc, .inl (cF, 6, .inr (.inr (.inl nusb)))), (nn, .inl (cI, 3, .inl nnm))]) ⟨hx, hb, hml, hown, hts⟩ (c_X5_isState l D B adK adV cC cF cI cZ cM cS xa ta fa da na ga xp xs xi xh np un fst fb fwy fc fmk fwt fvl fpt k  r4 hc5) (cwV 1 hts gX5_share_X5_isState rfl rfl rfl (by decide +kernel) ⟨Nat.le_of_ble_eq_true rfl, Nat.le_of_ble_eq_true rfl⟩) (va_recv hK hP (ci := 5) (q0 := 0) rfl rfl) hK hP hD hS hB hE [0, 1, 2, 3] rfl rfl rfl rfl rfl hl.1 rfl (Nat.le_of_ble_eq_true rfl) dX5_share_9 ⟨Nat.le_of_ble_eq_true rfl, Nat.le_of_ble_eq_true rfl⟩ (fun H locs hP hD hS => ?_)
    refine W.eq (g2 := F0 m 12 ls [.int r4]) rfl ?_
    refine lv_if_ne (tgt := 18) hx hb dX5_share_12 (by decide) (fun c6 => ?_) (fun c6 => ?_)
    · have hf := if_n c6 hf
      refine lv_aload_n hx hb dX5_share_18 rfl (lv_at hl 0 rfl) ?_
      refine va_get (D := D) (ci := 5) (v := .ref na) (C := RX5) (T := TX5) (N := 11) hx hb hts w0 hown hK hP 0 rfl rfl 3 (by decide) w1 (fun _ h9 => h9) rfl dX5_share_19 ?_
      refine lv_iload_n hx hb dX5_share_22 rfl (lv_at hl 1 rfl) ?_
      by_cases c7 : i = 0
      · have hf := if_p c7 hf
        refine W.eq (g2 := F0 m 23 ls [.int 0, .ref na]) (by rw [c7]) ?_
        obtain ⟨_, hc8, hf⟩ := bd_inv hf
        refine xcV (As := [.int 0]) (rest := []) (ws' := [(xa, .inr (5, [.ref ta, .ref fa, .ref da, .ref na, .ref ga, .ref xp, .ref xs, .ref xi, .ref xh, .int np, .int un])), (fa, .inr (0, [.int fst, .ref fb, .int fwy, .ref fc, .int fmk, .int fwt])), (fb, .inl (cI, 24, .inl fvl)), (fc, .inl (cI, 84, .inl fpt)), (na, .inr (2, [.ref nla, .ref nua, .ref nn, .int ntr])), (nla, .inr (1, [.int nlst, .int nlla, .int nlbw, .int nlbf, .int nlbd, .ref nlb, .ref nlc])), (nlb, .inl (cF, 6, .inr (.inr (.inl nlsh)))), (nlc, .inl (cF, 6, .inr (.inr (.inl nlsb)))), (nua, .inr (1, [.int nust, .int nula, .int nubw, .int nubf, .int nubd, .ref nub, .ref nuc])), (nub, .inl (cF, 6, .inr (.inr (.inl nush)))), (nuc, .inl (cF, 6, .inr (.inr (.inl nusb)))), (nn, .inl (cI, 3, .inl nnm))]) ⟨hx, hb, hml, hown, hts⟩ (c_X2_layerAt_0 l D B adK adV cC cF cI cZ cM cS na nla nua nn ntr nnm   hc8) (cwV 1 hts gX5_share_X2_layerAt rfl rfl rfl (by decide +kernel) ⟨Nat.le_of_ble_eq_true rfl, Nat.le_of_ble_eq_true rfl⟩) (va_recv hK hP (ci := 2) (q0 := 4) rfl rfl) hK hP hD hS hB hE [4, 11] rfl rfl rfl rfl rfl hl.1 rfl (Nat.le_of_ble_eq_true rfl) dX5_share_23 ⟨Nat.le_of_ble_eq_true rfl, Nat.le_of_ble_eq_true rfl⟩ (fun H locs hP hD hS => ?_)
        refine W.eq (g2 := F0 m 26 ls [.ref nla]) rfl ?_
        refine va_getN (D := D) (ci := 1) (v := .ref nlb) (C := RX1) (T := TX1) (N := 7) hx hb hts w2 hown hK hP 5 rfl rfl 5 (by decide) w3 (fun _ h9 => h9) rfl dX5_share_26 ?_
        refine lv_iload_n hx hb dX5_share_29 rfl (lv_at hl 2 rfl) ?_
        obtain ⟨g9, hf⟩ := gd_inv hf
        refine va_fald hx hb hK hP 6 1 rfl rfl g9 dX5_share_30 ?_
        refine lv_ldcf hx hb hown w4 dX5_share_31 ?_
        obtain ⟨g10, hf⟩ := gd_inv hf
        refine lv_fmul hx hb dX5_share_33 g10 ?_
        refine lv_f2i hx hb dX5_share_34 ?_
        have h1 := Option.some.inj hf
        subst h1
        rw [hQ]
        exact W.iret (v := (FP.f2i (FP.fmul (nlsh k.toNatClampNeg) 1199570944))) hx hb hr (fun t ht hW => qEnd hP hS ht) hS.2.2 dX5_share_35
      · have hf := if_n c7 hf
        by_cases c11 : i = 1
        · have hf := if_p c11 hf
          refine W.eq (g2 := F0 m 23 ls [.int 1, .ref na]) (by rw [c11]) ?_
          obtain ⟨_, hc12, hf⟩ := bd_inv hf
          refine xcV (As := [.int 1]) (rest := []) (ws' := [(xa, .inr (5, [.ref ta, .ref fa, .ref da, .ref na, .ref ga, .ref xp, .ref xs, .ref xi, .ref xh, .int np, .int un])), (fa, .inr (0, [.int fst, .ref fb, .int fwy, .ref fc, .int fmk, .int fwt])), (fb, .inl (cI, 24, .inl fvl)), (fc, .inl (cI, 84, .inl fpt)), (na, .inr (2, [.ref nla, .ref nua, .ref nn, .int ntr])), (nla, .inr (1, [.int nlst, .int nlla, .int nlbw, .int nlbf, .int nlbd, .ref nlb, .ref nlc])), (nlb, .inl (cF, 6, .inr (.inr (.inl nlsh)))), (nlc, .inl (cF, 6, .inr (.inr (.inl nlsb)))), (nua, .inr (1, [.int nust, .int nula, .int nubw, .int nubf, .int nubd, .ref nub, .ref nuc])), (nub, .inl (cF, 6, .inr (.inr (.inl nush)))), (nuc, .inl (cF, 6, .inr (.inr (.inl nusb)))), (nn, .inl (cI, 3, .inl nnm))]) ⟨hx, hb, hml, hown, hts⟩ (c_X2_layerAt_1 l D B adK adV cC cF cI cZ cM cS na nla nua nn ntr nnm   hc12) (cwV 1 hts gX5_share_X2_layerAt rfl rfl rfl (by decide +kernel) ⟨Nat.le_of_ble_eq_true rfl, Nat.le_of_ble_eq_true rfl⟩) (va_recv hK hP (ci := 2) (q0 := 4) rfl rfl) hK hP hD hS hB hE [4, 11] rfl rfl rfl rfl rfl hl.1 rfl (Nat.le_of_ble_eq_true rfl) dX5_share_23 ⟨Nat.le_of_ble_eq_true rfl, Nat.le_of_ble_eq_true rfl⟩ (fun H locs hP hD hS => ?_)
          refine W.eq (g2 := F0 m 26 ls [.ref nua]) rfl ?_
          refine va_getN (D := D) (ci := 1) (v := .ref nub) (C := RX1) (T := TX1) (N := 7) hx hb hts w2 hown hK hP 8 rfl rfl 5 (by decide) w3 (fun _ h9 => h9) rfl dX5_share_26 ?_
          refine lv_iload_n hx hb dX5_share_29 rfl (lv_at hl 2 rfl) ?_
          obtain ⟨g13, hf⟩ := gd_inv hf
          refine va_fald hx hb hK hP 9 1 rfl rfl g13 dX5_share_30 ?_
          refine lv_ldcf hx hb hown w4 dX5_share_31 ?_
          obtain ⟨g14, hf⟩ := gd_inv hf
          refine lv_fmul hx hb dX5_share_33 g14 ?_
          refine lv_f2i hx hb dX5_share_34 ?_
          have h1 := Option.some.inj hf
          subst h1
          rw [hQ]
          exact W.iret (v := (FP.f2i (FP.fmul (nush k.toNatClampNeg) 1199570944))) hx hb hr (fun t ht hW => qEnd hP hS ht) hS.2.2 dX5_share_35
        · have hf := if_n c11 hf
          cases hf
    · have hf := if_p c6 hf
      refine lv_bipush (v := (-2)) hx hb dX5_share_15 (by decide) ?_
      have h1 := Option.some.inj hf
      subst h1
      rw [hQ]
      exact W.iret (v := (-2)) hx hb hr (fun t ht hW => qEnd hP hS ht) hS.2.2 dX5_share_17
set_option maxRecDepth 100000 in
set_option maxHeartbeats 4000000 in
theorem c_X5_floatBits (l : Launch) (D : va_G) (B : Nat) (adK adV : Nat → Nat) (cC cF cI cZ cM cS : ClassId) (x : UInt32) (zz : Int32) (hf : f_X5_floatBits x = some zz) : Ct l yX5_floatBits wsX5_floatBits { frames := 0, cells := 0, slots := 0, locals := 0 } D B adK adV (tysX cC cF cI cZ cM cS) [.float x] [] [] (some (.int zz)) := by
  refine Ct.ofW (cc := cX5_floatBits) (maxL := 4) (ret := (some .int)) (by decide) rfl (Nat.le_of_ble_eq_true rfl) ?_
  intro p e s m args below meth c hx hb hr hml hts hown hlocks hnm hK hE A Q hQ hB H locs ls hP hD hS hl
  have hl : lv_has ls 4 [(0, .float x)] := hl
  have w0 := hts (.constantFloat RX5 257 (1258291200)) (by decide +kernel)
  have L7 : ∀ (n : Nat) (x3_7 : Int32) (x2_7 : Int32) (x1_7 : UInt32) (oo : Int32 × Int32 × UInt32), f_X5_floatBits_L7 n x3_7 x2_7 x1_7 = some oo → ∀ (H : Heap) (locs : List Loc) (ls : Array Slot), va_P D vwCl [] H → va_D A [] → va_S A s.heap H locs → lv_has ls 4 [(3, .int x3_7), (2, .int x2_7), (1, .float x1_7), (0, .float x)] → (∀ (H : Heap) (locs : List Loc) (ls : Array Slot), va_P D vwCl [] H → va_D A [] → va_S A s.heap H locs → lv_has ls 4 [(3, .int oo.1), (2, .int oo.2.1), (1, .float oo.2.2), (0, .float x)] → W p l e { frames := 0, cells := 0, slots := 0, locals := 0 } s m args below meth c H locs 0 0 Q (F0 m 32 ls [])) → W p l e { frames := 0, cells := 0, slots := 0, locals := 0 } s m args below meth c H locs 0 0 Q (F0 m 7 ls []) := by
    intro n
    induction n with
    | zero => intro x3_7 x2_7 x1_7 oo hf; exact absurd hf (by simp [f_X5_floatBits_L7])
    | succ n ih =>
      intro x3_7 x2_7 x1_7 oo hf H locs ls hP hD hS hl kk
      rw [f_X5_floatBits_L7] at hf
      refine lv_iload_n hx hb dX5_floatBits_7 rfl (lv_at hl 0 rfl) ?_
      refine lv_bipush (v := 126) hx hb dX5_floatBits_8 (by decide) ?_
      refine lv_icmp_ge (tgt := 32) hx hb dX5_floatBits_10 (by decide) (fun c1 => ?_) (fun c1 => ?_)
      · have hf := if_p c1 hf
        have h1 := Option.some.inj hf
        subst h1
        exact kk H locs ls hP hD hS (lv_sub hl [0, 1, 2, 3] rfl)
      · have hf := if_n c1 hf
        refine lv_fload_n hx hb dX5_floatBits_13 rfl (lv_at hl 2 rfl) ?_
        refine lv_fconst1 hx hb dX5_floatBits_14 ?_
        refine lv_fcmp hx hb dX5_floatBits_15 ?_
        refine lv_if_ge (tgt := 32) hx hb dX5_floatBits_16 (by decide) (fun c2 => ?_) (fun c2 => ?_)
        · have hf := if_p c2 hf
          have h1 := Option.some.inj hf
          subst h1
          exact kk H locs ls hP hD hS (lv_sub hl [0, 1, 2, 3] rfl)
        · have hf := if_n c2 hf
          refine lv_fload_n hx hb dX5_floatBits_19 rfl (lv_at hl 2 rfl) ?_
          refine lv_fconst2 hx hb dX5_floatBits_20 ?_
          obtain ⟨g3, hf⟩ := gd_inv hf
          refine lv_fmul hx hb dX5_floatBits_21 g3 ?_
          refine lv_fstore_n (lv' := [(1, .float (FP.fmul x1_7 FP.fconst2)), (3, .int x3_7), (2, .int x2_7), (0, .float x)]) hx hb dX5_floatBits_22 rfl hl (by decide) rfl (fun ls hl => ?_)
          refine lv_iinc (v := x2_7 + (-1)) (lv' := [(2, .int (x2_7 + (-1))), (1, .float (FP.fmul x1_7 FP.fconst2)), (3, .int x3_7), (0, .float x)]) hx hb dX5_floatBits_23 hl (k := 2) rfl rfl (by decide) rfl (fun ls hl => ?_)
          refine lv_iinc (v := x3_7 + 1) (lv' := [(3, .int (x3_7 + 1)), (2, .int (x2_7 + (-1))), (1, .float (FP.fmul x1_7 FP.fconst2)), (0, .float x)]) hx hb dX5_floatBits_26 hl (k := 2) rfl rfl (by decide) rfl (fun ls hl => ?_)
          refine lv_goto (tgt := 7) hx hb dX5_floatBits_29 (by decide) ?_
          exact ih (x3_7 + 1) (x2_7 + (-1)) (FP.fmul x1_7 FP.fconst2) oo hf H locs ls hP hD hS (lv_sub hl [0, 1, 2, 3] rfl) kk
  unfold f_X5_floatBits at hf
  refine lv_fload_n hx hb dX5_floatBits_0 rfl (lv_at hl 0 rfl) ?_
  refine lv_fstore_n (lv' := [(1, .float x), (0, .float x)]) hx hb dX5_floatBits_1 rfl hl (by decide) rfl (fun ls hl => ?_)
  refine lv_bipush (v := 127) hx hb dX5_floatBits_2 (by decide) ?_
  refine lv_istore_n (lv' := [(2, .int 127), (1, .float x), (0, .float x)]) hx hb dX5_floatBits_4 rfl hl (by decide) rfl (fun ls hl => ?_)
  refine lv_iconst (v := 0) hx hb dX5_floatBits_5 (by decide) ?_
  refine lv_istore_n (lv' := [(3, .int 0), (2, .int 127), (1, .float x), (0, .float x)]) hx hb dX5_floatBits_6 rfl hl (by decide) rfl (fun ls hl => ?_)
  obtain ⟨⟨q4, q5, q6⟩, hq11, hf⟩ := bd_inv hf
  refine L7 1000 0 127 x (q4, q5, q6) hq11 H locs ls hP hD hS (lv_sub hl [0, 1, 2, 3] rfl) (fun H locs ls hP hD hS hl => ?_)
  have hP : va_P D vwCl [] H := hP
  have hD : va_D A [] := hD
  have hl : lv_has ls 4 [(3, .int q4), (2, .int q5), (1, .float q6), (0, .float x)] := hl
  refine lv_fload_n hx hb dX5_floatBits_32 rfl (lv_at hl 2 rfl) ?_
  refine lv_fconst1 hx hb dX5_floatBits_33 ?_
  refine lv_fcmp hx hb dX5_floatBits_34 ?_
  refine lv_if_ge (tgt := 45) hx hb dX5_floatBits_35 (by decide) (fun c7 => ?_) (fun c7 => ?_)
  · have hf := if_p c7 hf
    refine lv_iload_n hx hb dX5_floatBits_45 rfl (lv_at hl 1 rfl) ?_
    refine lv_bipush (v := 23) hx hb dX5_floatBits_46 (by decide) ?_
    refine lv_ishl hx hb dX5_floatBits_48 ?_
    refine lv_fload_n hx hb dX5_floatBits_49 rfl (lv_at hl 2 rfl) ?_
    refine lv_fconst1 hx hb dX5_floatBits_50 ?_
    obtain ⟨g8, hf⟩ := gd_inv hf
    refine lv_fsub hx hb dX5_floatBits_51 g8 ?_
    refine lv_ldcfw hx hb hown w0 dX5_floatBits_52 ?_
    obtain ⟨g9, hf⟩ := gd_inv hf
    refine lv_fmul hx hb dX5_floatBits_55 g9 ?_
    refine lv_f2i hx hb dX5_floatBits_56 ?_
    refine lv_iadd hx hb dX5_floatBits_57 ?_
    have h1 := Option.some.inj hf
    subst h1
    rw [hQ]
    exact W.iret (v := ((q5 <<< (23 &&& 31)) + (FP.f2i (FP.fmul (FP.fsub q6 FP.fconst1) 1258291200)))) hx hb hr (fun t ht hW => qEnd hP hS ht) hS.2.2 dX5_floatBits_58
  · have hf := if_n c7 hf
    refine lv_fload_n hx hb dX5_floatBits_38 rfl (lv_at hl 2 rfl) ?_
    refine lv_ldcfw hx hb hown w0 dX5_floatBits_39 ?_
    obtain ⟨g10, hf⟩ := gd_inv hf
    refine lv_fmul hx hb dX5_floatBits_42 g10 ?_
    refine lv_f2i hx hb dX5_floatBits_43 ?_
    have h1 := Option.some.inj hf
    subst h1
    rw [hQ]
    exact W.iret (v := (FP.f2i (FP.fmul q6 1258291200))) hx hb hr (fun t ht hW => qEnd hP hS ht) hS.2.2 dX5_floatBits_44
set_option maxRecDepth 100000 in
set_option maxHeartbeats 4000000 in
theorem c_X5_doubleBits (l : Launch) (D : va_G) (B : Nat) (adK adV : Nat → Nat) (cC cF cI cZ cM cS : ClassId) (x : UInt64) (zz : Int64) (hf : f_X5_doubleBits x = some zz) : Ct l yX5_doubleBits wsX5_doubleBits { frames := 0, cells := 0, slots := 0, locals := 0 } D B adK adV (tysX cC cF cI cZ cM cS) [.double x] [] [] (some (.long zz)) := by
  refine Ct.ofW (cc := cX5_doubleBits) (maxL := 8) (ret := (some .long)) (by decide) rfl (Nat.le_of_ble_eq_true rfl) ?_
  intro p e s m args below meth c hx hb hr hml hts hown hlocks hnm hK hE A Q hQ hB H locs ls hP hD hS hl
  have hl : lv_has ls 8 [(0, .double x)] := hl
  have w0 := hts (.constantLong RX5 258 (1023)) (by decide +kernel)
  have w1 := hts (.constantDouble RX5 260 (4611686018427387904)) (by decide +kernel)
  have w2 := hts (.constantDouble RX5 262 (4841369599423283200)) (by decide +kernel)
  have w3 := hts (.constantLong RX5 173 (-9223372036854775808)) (by decide +kernel)
  have L21 : ∀ (n : Nat) (x6_21 : Int32) (x4_21 : Int64) (x2_21 : UInt64) (oo : Int32 × Int64 × UInt64), f_X5_doubleBits_L21 n x6_21 x4_21 x2_21 = some oo → ∀ (H : Heap) (locs : List Loc) (ls : Array Slot), va_P D vwCl [] H → va_D A [] → va_S A s.heap H locs → lv_has ls 8 [(6, .int x6_21), (4, .long x4_21), (2, .double x2_21), (0, .double x)] → (∀ (H : Heap) (locs : List Loc) (ls : Array Slot), va_P D vwCl [] H → va_D A [] → va_S A s.heap H locs → lv_has ls 8 [(6, .int oo.1), (4, .long oo.2.1), (2, .double oo.2.2), (0, .double x)] → W p l e { frames := 0, cells := 0, slots := 0, locals := 0 } s m args below meth c H locs 0 0 Q (F0 m 53 ls [])) → W p l e { frames := 0, cells := 0, slots := 0, locals := 0 } s m args below meth c H locs 0 0 Q (F0 m 21 ls []) := by
    intro n
    induction n with
    | zero => intro x6_21 x4_21 x2_21 oo hf; exact absurd hf (by simp [f_X5_doubleBits_L21])
    | succ n ih =>
      intro x6_21 x4_21 x2_21 oo hf H locs ls hP hD hS hl kk
      rw [f_X5_doubleBits_L21] at hf
      refine lv_iload hx hb dX5_doubleBits_21 (lv_at hl 0 rfl) ?_
      refine lv_sipush (v := 1022) hx hb dX5_doubleBits_23 (by decide) ?_
      refine lv_icmp_ge (tgt := 53) hx hb dX5_doubleBits_26 (by decide) (fun c2 => ?_) (fun c2 => ?_)
      · have hf := if_p c2 hf
        have h1 := Option.some.inj hf
        subst h1
        exact kk H locs ls hP hD hS (lv_sub hl [0, 1, 2, 3] rfl)
      · have hf := if_n c2 hf
        refine lv_dload_n hx hb dX5_doubleBits_29 rfl (lv_at hl 2 rfl) ?_
        refine lv_dconst1 hx hb dX5_doubleBits_30 ?_
        refine lv_dcmp hx hb dX5_doubleBits_31 ?_
        refine lv_if_ge (tgt := 53) hx hb dX5_doubleBits_32 (by decide) (fun c3 => ?_) (fun c3 => ?_)
        · have hf := if_p c3 hf
          have h1 := Option.some.inj hf
          subst h1
          exact kk H locs ls hP hD hS (lv_sub hl [0, 1, 2, 3] rfl)
        · have hf := if_n c3 hf
          refine lv_dload_n hx hb dX5_doubleBits_35 rfl (lv_at hl 2 rfl) ?_
          refine lv_ldc2d hx hb hown w1 dX5_doubleBits_36 ?_
          obtain ⟨g4, hf⟩ := gd_inv hf
          refine lv_dmul hx hb dX5_doubleBits_39 g4 ?_
          refine lv_dstore_n (lv' := [(2, .double (FP.dmul x2_21 4611686018427387904)), (6, .int x6_21), (4, .long x4_21), (0, .double x)]) hx hb dX5_doubleBits_40 rfl hl (by decide) rfl (fun ls hl => ?_)
          refine lv_lload hx hb dX5_doubleBits_41 (lv_at hl 2 rfl) ?_
          refine lv_lconst (v := 1) hx hb dX5_doubleBits_43 (by decide) ?_
          refine lv_lsub hx hb dX5_doubleBits_44 ?_
          refine lv_lstore (lv' := [(4, .long (x4_21 - 1)), (2, .double (FP.dmul x2_21 4611686018427387904)), (6, .int x6_21), (0, .double x)]) hx hb dX5_doubleBits_45 hl (by decide) rfl (fun ls hl => ?_)
          refine lv_iinc (v := x6_21 + 1) (lv' := [(6, .int (x6_21 + 1)), (4, .long (x4_21 - 1)), (2, .double (FP.dmul x2_21 4611686018427387904)), (0, .double x)]) hx hb dX5_doubleBits_47 hl (k := 2) rfl rfl (by decide) rfl (fun ls hl => ?_)
          refine lv_goto (tgt := 21) hx hb dX5_doubleBits_50 (by decide) ?_
          exact ih (x6_21 + 1) (x4_21 - 1) (FP.dmul x2_21 4611686018427387904) oo hf H locs ls hP hD hS (lv_sub hl [0, 1, 2, 3] rfl) kk
  have L56 : ∀ (n : Nat) (x6_56 : Int32) (x4_56 : Int64) (x2_56 : UInt64) (oo : Int32 × Int64 × UInt64), f_X5_doubleBits_L56 n x6_56 x4_56 x2_56 = some oo → ∀ (H : Heap) (locs : List Loc) (ls : Array Slot), va_P D vwCl [] H → va_D A [] → va_S A s.heap H locs → lv_has ls 8 [(6, .int x6_56), (4, .long x4_56), (2, .double x2_56), (0, .double x)] → (∀ (H : Heap) (locs : List Loc) (ls : Array Slot), va_P D vwCl [] H → va_D A [] → va_S A s.heap H locs → lv_has ls 8 [(6, .int oo.1), (4, .long oo.2.1), (2, .double oo.2.2), (0, .double x)] → W p l e { frames := 0, cells := 0, slots := 0, locals := 0 } s m args below meth c H locs 0 0 Q (F0 m 90 ls [])) → W p l e { frames := 0, cells := 0, slots := 0, locals := 0 } s m args below meth c H locs 0 0 Q (F0 m 56 ls []) := by
    intro n
    induction n with
    | zero => intro x6_56 x4_56 x2_56 oo hf; exact absurd hf (by simp [f_X5_doubleBits_L56])
    | succ n ih =>
      intro x6_56 x4_56 x2_56 oo hf H locs ls hP hD hS hl kk
      rw [f_X5_doubleBits_L56] at hf
      refine lv_iload hx hb dX5_doubleBits_56 (lv_at hl 0 rfl) ?_
      refine lv_sipush (v := 1023) hx hb dX5_doubleBits_58 (by decide) ?_
      refine lv_icmp_ge (tgt := 90) hx hb dX5_doubleBits_61 (by decide) (fun c8 => ?_) (fun c8 => ?_)
      · have hf := if_p c8 hf
        have h1 := Option.some.inj hf
        subst h1
        exact kk H locs ls hP hD hS (lv_sub hl [0, 1, 2, 3] rfl)
      · have hf := if_n c8 hf
        refine lv_dload_n hx hb dX5_doubleBits_64 rfl (lv_at hl 2 rfl) ?_
        refine lv_ldc2d hx hb hown w1 dX5_doubleBits_65 ?_
        refine lv_dcmp hx hb dX5_doubleBits_68 ?_
        refine lv_if_lt (tgt := 90) hx hb dX5_doubleBits_69 (by decide) (fun c9 => ?_) (fun c9 => ?_)
        · have hf := if_p c9 hf
          have h1 := Option.some.inj hf
          subst h1
          exact kk H locs ls hP hD hS (lv_sub hl [0, 1, 2, 3] rfl)
        · have hf := if_n c9 hf
          refine lv_dload_n hx hb dX5_doubleBits_72 rfl (lv_at hl 2 rfl) ?_
          refine lv_ldc2d hx hb hown w1 dX5_doubleBits_73 ?_
          obtain ⟨g10, hf⟩ := gd_inv hf
          refine lv_ddiv hx hb dX5_doubleBits_76 g10 ?_
          refine lv_dstore_n (lv' := [(2, .double (FP.ddiv x2_56 4611686018427387904)), (6, .int x6_56), (4, .long x4_56), (0, .double x)]) hx hb dX5_doubleBits_77 rfl hl (by decide) rfl (fun ls hl => ?_)
          refine lv_lload hx hb dX5_doubleBits_78 (lv_at hl 2 rfl) ?_
          refine lv_lconst (v := 1) hx hb dX5_doubleBits_80 (by decide) ?_
          refine lv_ladd hx hb dX5_doubleBits_81 ?_
          refine lv_lstore (lv' := [(4, .long (x4_56 + 1)), (2, .double (FP.ddiv x2_56 4611686018427387904)), (6, .int x6_56), (0, .double x)]) hx hb dX5_doubleBits_82 hl (by decide) rfl (fun ls hl => ?_)
          refine lv_iinc (v := x6_56 + 1) (lv' := [(6, .int (x6_56 + 1)), (4, .long (x4_56 + 1)), (2, .double (FP.ddiv x2_56 4611686018427387904)), (0, .double x)]) hx hb dX5_doubleBits_84 hl (k := 2) rfl rfl (by decide) rfl (fun ls hl => ?_)
          refine lv_goto (tgt := 56) hx hb dX5_doubleBits_87 (by decide) ?_
          exact ih (x6_56 + 1) (x4_56 + 1) (FP.ddiv x2_56 4611686018427387904) oo hf H locs ls hP hD hS (lv_sub hl [0, 1, 2, 3] rfl) kk
  unfold f_X5_doubleBits at hf
  refine lv_dload_n hx hb dX5_doubleBits_0 rfl (lv_at hl 0 rfl) ?_
  refine lv_dconst0 hx hb dX5_doubleBits_1 ?_
  refine lv_dcmp hx hb dX5_doubleBits_2 ?_
  refine lv_if_ge (tgt := 11) hx hb dX5_doubleBits_3 (by decide) (fun c1 => ?_) (fun c1 => ?_)
  · have hf := if_p c1 hf
    refine lv_dload_n hx hb dX5_doubleBits_11 rfl (lv_at hl 0 rfl) ?_
    refine lv_dstore_n (lv' := [(2, .double x), (0, .double x)]) hx hb dX5_doubleBits_12 rfl hl (by decide) rfl (fun ls hl => ?_)
    refine lv_ldc2 hx hb hown w0 dX5_doubleBits_13 ?_
    refine lv_lstore (lv' := [(4, .long 1023), (2, .double x), (0, .double x)]) hx hb dX5_doubleBits_16 hl (by decide) rfl (fun ls hl => ?_)
    refine lv_iconst (v := 0) hx hb dX5_doubleBits_18 (by decide) ?_
    refine lv_istore (lv' := [(6, .int 0), (4, .long 1023), (2, .double x), (0, .double x)]) hx hb dX5_doubleBits_19 hl (by decide) rfl (fun ls hl => ?_)
    obtain ⟨⟨q5, q6, q7⟩, hq18, hf⟩ := bd_inv hf
    refine L21 1000 0 1023 x (q5, q6, q7) hq18 H locs ls hP hD hS (lv_sub hl [0, 1, 2, 3] rfl) (fun H locs ls hP hD hS hl => ?_)
    have hP : va_P D vwCl [] H := hP
    have hD : va_D A [] := hD
    have hl : lv_has ls 8 [(6, .int q5), (4, .long q6), (2, .double q7), (0, .double x)] := hl
    refine lv_iconst (v := 0) hx hb dX5_doubleBits_53 (by decide) ?_
    refine lv_istore (lv' := [(6, .int 0), (4, .long q6), (2, .double q7), (0, .double x)]) hx hb dX5_doubleBits_54 hl (by decide) rfl (fun ls hl => ?_)
    obtain ⟨⟨q11, q12, q13⟩, hq17, hf⟩ := bd_inv hf
    refine L56 1000 0 q6 q7 (q11, q12, q13) hq17 H locs ls hP hD hS (lv_sub hl [0, 1, 2, 3] rfl) (fun H locs ls hP hD hS hl => ?_)
    have hP : va_P D vwCl [] H := hP
    have hD : va_D A [] := hD
    have hl : lv_has ls 8 [(6, .int q11), (4, .long q12), (2, .double q13), (0, .double x)] := hl
    refine lv_lload hx hb dX5_doubleBits_90 (lv_at hl 1 rfl) ?_
    refine lv_bipush (v := 52) hx hb dX5_doubleBits_92 (by decide) ?_
    refine lv_lshl hx hb dX5_doubleBits_94 rfl ?_
    refine lv_dload_n hx hb dX5_doubleBits_95 rfl (lv_at hl 2 rfl) ?_
    refine lv_dconst1 hx hb dX5_doubleBits_96 ?_
    obtain ⟨g14, hf⟩ := gd_inv hf
    refine lv_dsub hx hb dX5_doubleBits_97 g14 ?_
    refine lv_ldc2d hx hb hown w2 dX5_doubleBits_98 ?_
    obtain ⟨g15, hf⟩ := gd_inv hf
    refine lv_dmul hx hb dX5_doubleBits_101 g15 ?_
    refine lv_d2l hx hb dX5_doubleBits_102 ?_
    refine lv_ladd hx hb dX5_doubleBits_103 ?_
    refine lv_lstore (lv' := [(6, .long ((q12 <<< ((52 : Int32).toInt64 &&& 63)) + (FP.d2l (FP.dmul (FP.dsub q13 FP.dconst1) 4841369599423283200)))), (4, .long q12), (2, .double q13), (0, .double x)]) hx hb dX5_doubleBits_104 hl (by decide) rfl (fun ls hl => ?_)
    refine lv_dload_n hx hb dX5_doubleBits_106 rfl (lv_at hl 3 rfl) ?_
    refine lv_dconst0 hx hb dX5_doubleBits_107 ?_
    refine lv_dcmp hx hb dX5_doubleBits_108 ?_
    refine lv_if_ge (tgt := 121) hx hb dX5_doubleBits_109 (by decide) (fun c16 => ?_) (fun c16 => absurd c1 c16)
    refine lv_lload hx hb dX5_doubleBits_121 (lv_at hl 0 rfl) ?_
    have h1 := Option.some.inj hf
    subst h1
    rw [hQ]
    exact W.lret (v := ((q12 <<< ((52 : Int32).toInt64 &&& 63)) + (FP.d2l (FP.dmul (FP.dsub q13 FP.dconst1) 4841369599423283200)))) hx hb hr (fun t ht hW => qEnd hP hS ht) hS.2.2 dX5_doubleBits_123
  · have hf := if_n c1 hf
    refine lv_dload_n hx hb dX5_doubleBits_6 rfl (lv_at hl 0 rfl) ?_
    refine lv_dneg hx hb dX5_doubleBits_7 ?_
    refine lv_goto (tgt := 12) hx hb dX5_doubleBits_8 (by decide) ?_
    refine lv_dstore_n (lv' := [(2, .double (FP.dneg x)), (0, .double x)]) hx hb dX5_doubleBits_12 rfl hl (by decide) rfl (fun ls hl => ?_)
    refine lv_ldc2 hx hb hown w0 dX5_doubleBits_13 ?_
    refine lv_lstore (lv' := [(4, .long 1023), (2, .double (FP.dneg x)), (0, .double x)]) hx hb dX5_doubleBits_16 hl (by decide) rfl (fun ls hl => ?_)
    refine lv_iconst (v := 0) hx hb dX5_doubleBits_18 (by decide) ?_
    refine lv_istore (lv' := [(6, .int 0), (4, .long 1023), (2, .double (FP.dneg x)), (0, .double x)]) hx hb dX5_doubleBits_19 hl (by decide) rfl (fun ls hl => ?_)
    obtain ⟨⟨q19, q20, q21⟩, hq29, hf⟩ := bd_inv hf
    refine L21 1000 0 1023 (FP.dneg x) (q19, q20, q21) hq29 H locs ls hP hD hS (lv_sub hl [0, 1, 2, 3] rfl) (fun H locs ls hP hD hS hl => ?_)
    have hP : va_P D vwCl [] H := hP
    have hD : va_D A [] := hD
    have hl : lv_has ls 8 [(6, .int q19), (4, .long q20), (2, .double q21), (0, .double x)] := hl
    refine lv_iconst (v := 0) hx hb dX5_doubleBits_53 (by decide) ?_
    refine lv_istore (lv' := [(6, .int 0), (4, .long q20), (2, .double q21), (0, .double x)]) hx hb dX5_doubleBits_54 hl (by decide) rfl (fun ls hl => ?_)
    obtain ⟨⟨q22, q23, q24⟩, hq28, hf⟩ := bd_inv hf
    refine L56 1000 0 q20 q21 (q22, q23, q24) hq28 H locs ls hP hD hS (lv_sub hl [0, 1, 2, 3] rfl) (fun H locs ls hP hD hS hl => ?_)
    have hP : va_P D vwCl [] H := hP
    have hD : va_D A [] := hD
    have hl : lv_has ls 8 [(6, .int q22), (4, .long q23), (2, .double q24), (0, .double x)] := hl
    refine lv_lload hx hb dX5_doubleBits_90 (lv_at hl 1 rfl) ?_
    refine lv_bipush (v := 52) hx hb dX5_doubleBits_92 (by decide) ?_
    refine lv_lshl hx hb dX5_doubleBits_94 rfl ?_
    refine lv_dload_n hx hb dX5_doubleBits_95 rfl (lv_at hl 2 rfl) ?_
    refine lv_dconst1 hx hb dX5_doubleBits_96 ?_
    obtain ⟨g25, hf⟩ := gd_inv hf
    refine lv_dsub hx hb dX5_doubleBits_97 g25 ?_
    refine lv_ldc2d hx hb hown w2 dX5_doubleBits_98 ?_
    obtain ⟨g26, hf⟩ := gd_inv hf
    refine lv_dmul hx hb dX5_doubleBits_101 g26 ?_
    refine lv_d2l hx hb dX5_doubleBits_102 ?_
    refine lv_ladd hx hb dX5_doubleBits_103 ?_
    refine lv_lstore (lv' := [(6, .long ((q23 <<< ((52 : Int32).toInt64 &&& 63)) + (FP.d2l (FP.dmul (FP.dsub q24 FP.dconst1) 4841369599423283200)))), (4, .long q23), (2, .double q24), (0, .double x)]) hx hb dX5_doubleBits_104 hl (by decide) rfl (fun ls hl => ?_)
    refine lv_dload_n hx hb dX5_doubleBits_106 rfl (lv_at hl 3 rfl) ?_
    refine lv_dconst0 hx hb dX5_doubleBits_107 ?_
    refine lv_dcmp hx hb dX5_doubleBits_108 ?_
    refine lv_if_ge (tgt := 121) hx hb dX5_doubleBits_109 (by decide) (fun c27 => absurd c27 c1) (fun c27 => ?_)
    refine lv_lload hx hb dX5_doubleBits_112 (lv_at hl 0 rfl) ?_
    refine lv_ldc2 hx hb hown w3 dX5_doubleBits_114 ?_
    refine lv_lor hx hb dX5_doubleBits_117 ?_
    refine lv_goto (tgt := 123) hx hb dX5_doubleBits_118 (by decide) ?_
    have h1 := Option.some.inj hf
    subst h1
    rw [hQ]
    exact W.lret (v := (((q23 <<< ((52 : Int32).toInt64 &&& 63)) + (FP.d2l (FP.dmul (FP.dsub q24 FP.dconst1) 4841369599423283200))) ||| (-9223372036854775808))) hx hb hr (fun t ht hW => qEnd hP hS ht) hS.2.2 dX5_doubleBits_123
set_option maxRecDepth 100000 in
set_option maxHeartbeats 4000000 in
theorem c_X5_bits (l : Launch) (D : va_G) (B : Nat) (adK adV : Nat → Nat) (cC cF cI cZ cM cS : ClassId) (xa : Nat) (ta : Nat) (fa : Nat) (da : Nat) (na : Nat) (ga : Nat) (xp : Nat) (xs : Nat) (xi : Nat) (xh : Nat) (np : Int32) (un : Int32) (fst : Int32) (fb : Nat) (fwy : Int32) (fc : Nat) (fmk : Int32) (fwt : Int32) (fvl : Nat → Int32) (fpt : Nat → Int32) (nla : Nat) (nua : Nat) (nn : Nat) (ntr : Int32) (nlst : Int32) (nlla : Int32) (nlbw : Int32) (nlbf : Int32) (nlbd : Int32) (nlb : Nat) (nlc : Nat) (nlsh : Nat → UInt32) (nlsb : Nat → UInt32) (nust : Int32) (nula : Int32) (nubw : Int32) (nubf : Int32) (nubd : Int32) (nub : Nat) (nuc : Nat) (nush : Nat → UInt32) (nusb : Nat → UInt32) (nnm : Nat → Int32) (i : Int32) (k : Int32) (zz : Int32) (hf : f_X5_bits fst nlsh nush i k = some zz) : Ct l yX5_bits wsX5_bits { frames := 1, cells := 0, slots := 0, locals := 23 } D B adK adV (tysX cC cF cI cZ cM cS) [.ref xa, .int i, .int k] [(xa, .inr (5, [.ref ta, .ref fa, .ref da, .ref na, .ref ga, .ref xp, .ref xs, .ref xi, .ref xh, .int np, .int un])), (fa, .inr (0, [.int fst, .ref fb, .int fwy, .ref fc, .int fmk, .int fwt])), (fb, .inl (cI, 24, .inl fvl)), (fc, .inl (cI, 84, .inl fpt)), (na, .inr (2, [.ref nla, .ref nua, .ref nn, .int ntr])), (nla, .inr (1, [.int nlst, .int nlla, .int nlbw, .int nlbf, .int nlbd, .ref nlb, .ref nlc])), (nlb, .inl (cF, 6, .inr (.inr (.inl nlsh)))), (nlc, .inl (cF, 6, .inr (.inr (.inl nlsb)))), (nua, .inr (1, [.int nust, .int nula, .int nubw, .int nubf, .int nubd, .ref nub, .ref nuc])), (nub, .inl (cF, 6, .inr (.inr (.inl nush)))), (nuc, .inl (cF, 6, .inr (.inr (.inl nusb)))), (nn, .inl (cI, 3, .inl nnm))] [(xa, .inr (5, [.ref ta, .ref fa, .ref da, .ref na, .ref ga, .ref xp, .ref xs, .ref xi, .ref xh, .int np, .int un])), (fa, .inr (0, [.int fst, .ref fb, .int fwy, .ref fc, .int fmk, .int fwt])), (fb, .inl (cI, 24, .inl fvl)), (fc, .inl (cI, 84, .inl fpt)), (na, .inr (2, [.ref nla, .ref nua, .ref nn, .int ntr])), (nla, .inr (1, [.int nlst, .int nlla, .int nlbw, .int nlbf, .int nlbd, .ref nlb, .ref nlc])), (nlb, .inl (cF, 6, .inr (.inr (.inl nlsh)))), (nlc, .inl (cF, 6, .inr (.inr (.inl nlsb)))), (nua, .inr (1, [.int nust, .int nula, .int nubw, .int nubf, .int nubd, .ref nub, .ref nuc])), (nub, .inl (cF, 6, .inr (.inr (.inl nush)))), (nuc, .inl (cF, 6, .inr (.inr (.inl nusb)))), (nn, .inl (cI, 3, .inl nnm))] (some (.int zz)) := by
  refine Ct.ofW (cc := cX5_bits) (maxL := 3) (ret := (some .int)) (by decide) rfl (Nat.le_of_ble_eq_true rfl) ?_
  intro p e s m args below meth c hx hb hr hml hts hown hlocks hnm hK hE A Q hQ hB H locs ls hP hD hS hl
  have hl : lv_has ls 3 [(0, .ref xa), (1, .int i), (2, .int k)] := hl
  have w0 : ∀ w ∈ u_ws RX5 TX5 11, w ∈ wsX5_bits := by decide +kernel
  have w1 := hts (.fieldLink RX5 29 "MotionStates" "now" "LMotionStates$Motion;") (by decide +kernel)
  have w2 : ∀ w ∈ u_ws RX1 TX1 7, w ∈ wsX5_bits := by decide +kernel
  have w3 : (Cond.fieldLinkNest "MotionStates" 151 "MotionStates$Layer" "shares" "[F" "MotionStates").before args s = true := va_Nw.use rfl (hE.1 ("MotionStates", 151, "MotionStates$Layer", "shares", "[F", "MotionStates") (by decide +kernel))
  unfold f_X5_bits at hf
  refine lv_iload_n hx hb dX5_bits_0 rfl (lv_at hl 1 rfl) ?_
  obtain ⟨r1, hc2, hf⟩ := bd_inv hf
  refine xcS (As := [.int i]) (rest := []) (ws' := [(xa, .inr (5, [.ref ta, .ref fa, .ref da, .ref na, .ref ga, .ref xp, .ref xs, .ref xi, .ref xh, .int np, .int un])), (fa, .inr (0, [.int fst, .ref fb, .int fwy, .ref fc, .int fmk, .int fwt])), (fb, .inl (cI, 24, .inl fvl)), (fc, .inl (cI, 84, .inl fpt)), (na, .inr (2, [.ref nla, .ref nua, .ref nn, .int ntr])), (nla, .inr (1, [.int nlst, .int nlla, .int nlbw, .int nlbf, .int nlbd, .ref nlb, .ref nlc])), (nlb, .inl (cF, 6, .inr (.inr (.inl nlsh)))), (nlc, .inl (cF, 6, .inr (.inr (.inl nlsb)))), (nua, .inr (1, [.int nust, .int nula, .int nubw, .int nubf, .int nubd, .ref nub, .ref nuc])), (nub, .inl (cF, 6, .inr (.inr (.inl nush)))), (nuc, .inl (cF, 6, .inr (.inr (.inl nusb)))), (nn, .inl (cI, 3, .inl nnm))]) ⟨hx, hb, hml, hown, hts⟩ (c_X5_isLayer l D B adK adV cC cF cI cZ cM cS i  r1 hc2) (va_cwS 1 hts gX5_bits_X5_isLayer rfl rfl rfl (by decide +kernel) ⟨Nat.le_of_ble_eq_true rfl, Nat.le_of_ble_eq_true rfl⟩) hK hP hD hS hB hE [] rfl rfl rfl rfl rfl hl.1 rfl (Nat.le_of_ble_eq_true rfl) dX5_bits_1 ⟨Nat.le_of_ble_eq_true rfl, Nat.le_of_ble_eq_true rfl⟩ (fun H locs hP hD hS => ?_)
  refine W.eq (g2 := F0 m 4 ls [.int r1]) rfl ?_
  refine lv_if_eq (tgt := 15) hx hb dX5_bits_4 (by decide) (fun c3 => ?_) (fun c3 => ?_)
  · have hf := if_p c3 hf
    refine lv_bipush (v := (-2)) hx hb dX5_bits_15 (by decide) ?_
    have h1 := Option.some.inj hf
    subst h1
    rw [hQ]
    exact W.iret (v := (-2)) hx hb hr (fun t ht hW => qEnd hP hS ht) hS.2.2 dX5_bits_17
  · have hf := if_n c3 hf
    refine lv_aload_n hx hb dX5_bits_7 rfl (lv_at hl 0 rfl) ?_
    refine lv_iload_n hx hb dX5_bits_8 rfl (lv_at hl 2 rfl) ?_
    obtain ⟨r4, hc5, hf⟩ := bd_inv hf
    refine xcV (As := [.int k]) (rest := []) (ws' := [(xa, .inr (5, [.ref ta, .ref fa, .ref da, .ref na, .ref ga, .ref xp, .ref xs, .ref xi, .ref xh, .int np, .int un])), (fa, .inr (0, [.int fst, .ref fb, .int fwy, .ref fc, .int fmk, .int fwt])), (fb, .inl (cI, 24, .inl fvl)), (fc, .inl (cI, 84, .inl fpt)), (na, .inr (2, [.ref nla, .ref nua, .ref nn, .int ntr])), (nla, .inr (1, [.int nlst, .int nlla, .int nlbw, .int nlbf, .int nlbd, .ref nlb, .ref nlc])), (nlb, .inl (cF, 6, .inr (.inr (.inl nlsh)))), (nlc, .inl (cF, 6, .inr (.inr (.inl nlsb)))), (nua, .inr (1, [.int nust, .int nula, .int nubw, .int nubf, .int nubd, .ref nub, .ref nuc])), (nub, .inl (cF, 6, .inr (.inr (.inl nush)))), (nuc, .inl (cF, 6, .inr (.inr (.inl nusb)))), (nn, .inl (cI, 3, .inl nnm))]) ⟨hx, hb, hml, hown, hts⟩ (c_X5_isState l D B adK adV cC cF cI cZ cM cS xa ta fa da na ga xp xs xi xh np un fst fb fwy fc fmk fwt fvl fpt k  r4 hc5) (cwV 1 hts gX5_bits_X5_isState rfl rfl rfl (by decide +kernel) ⟨Nat.le_of_ble_eq_true rfl, Nat.le_of_ble_eq_true rfl⟩) (va_recv hK hP (ci := 5) (q0 := 0) rfl rfl) hK hP hD hS hB hE [0, 1, 2, 3] rfl rfl rfl rfl rfl hl.1 rfl (Nat.le_of_ble_eq_true rfl) dX5_bits_9 ⟨Nat.le_of_ble_eq_true rfl, Nat.le_of_ble_eq_true rfl⟩ (fun H locs hP hD hS => ?_)
    refine W.eq (g2 := F0 m 12 ls [.int r4]) rfl ?_
    refine lv_if_ne (tgt := 18) hx hb dX5_bits_12 (by decide) (fun c6 => ?_) (fun c6 => ?_)
    · have hf := if_n c6 hf
      refine lv_aload_n hx hb dX5_bits_18 rfl (lv_at hl 0 rfl) ?_
      refine va_get (D := D) (ci := 5) (v := .ref na) (C := RX5) (T := TX5) (N := 11) hx hb hts w0 hown hK hP 0 rfl rfl 3 (by decide) w1 (fun _ h9 => h9) rfl dX5_bits_19 ?_
      refine lv_iload_n hx hb dX5_bits_22 rfl (lv_at hl 1 rfl) ?_
      by_cases c7 : i = 0
      · have hf := if_p c7 hf
        refine W.eq (g2 := F0 m 23 ls [.int 0, .ref na]) (by rw [c7]) ?_
        obtain ⟨_, hc8, hf⟩ := bd_inv hf
        refine xcV (As := [.int 0]) (rest := []) (ws' := [(xa, .inr (5, [.ref ta, .ref fa, .ref da, .ref na, .ref ga, .ref xp, .ref xs, .ref xi, .ref xh, .int np, .int un])), (fa, .inr (0, [.int fst, .ref fb, .int fwy, .ref fc, .int fmk, .int fwt])), (fb, .inl (cI, 24, .inl fvl)), (fc, .inl (cI, 84, .inl fpt)), (na, .inr (2, [.ref nla, .ref nua, .ref nn, .int ntr])), (nla, .inr (1, [.int nlst, .int nlla, .int nlbw, .int nlbf, .int nlbd, .ref nlb, .ref nlc])), (nlb, .inl (cF, 6, .inr (.inr (.inl nlsh)))), (nlc, .inl (cF, 6, .inr (.inr (.inl nlsb)))), (nua, .inr (1, [.int nust, .int nula, .int nubw, .int nubf, .int nubd, .ref nub, .ref nuc])), (nub, .inl (cF, 6, .inr (.inr (.inl nush)))), (nuc, .inl (cF, 6, .inr (.inr (.inl nusb)))), (nn, .inl (cI, 3, .inl nnm))]) ⟨hx, hb, hml, hown, hts⟩ (c_X2_layerAt_0 l D B adK adV cC cF cI cZ cM cS na nla nua nn ntr nnm   hc8) (cwV 1 hts gX5_bits_X2_layerAt rfl rfl rfl (by decide +kernel) ⟨Nat.le_of_ble_eq_true rfl, Nat.le_of_ble_eq_true rfl⟩) (va_recv hK hP (ci := 2) (q0 := 4) rfl rfl) hK hP hD hS hB hE [4, 11] rfl rfl rfl rfl rfl hl.1 rfl (Nat.le_of_ble_eq_true rfl) dX5_bits_23 ⟨Nat.le_of_ble_eq_true rfl, Nat.le_of_ble_eq_true rfl⟩ (fun H locs hP hD hS => ?_)
        refine W.eq (g2 := F0 m 26 ls [.ref nla]) rfl ?_
        refine va_getN (D := D) (ci := 1) (v := .ref nlb) (C := RX1) (T := TX1) (N := 7) hx hb hts w2 hown hK hP 5 rfl rfl 5 (by decide) w3 (fun _ h9 => h9) rfl dX5_bits_26 ?_
        refine lv_iload_n hx hb dX5_bits_29 rfl (lv_at hl 2 rfl) ?_
        obtain ⟨g9, hf⟩ := gd_inv hf
        refine va_fald hx hb hK hP 6 1 rfl rfl g9 dX5_bits_30 ?_
        obtain ⟨r10, hc11, hf⟩ := bd_inv hf
        refine xcS (As := [.float (nlsh k.toNatClampNeg)]) (rest := []) (ws' := [(xa, .inr (5, [.ref ta, .ref fa, .ref da, .ref na, .ref ga, .ref xp, .ref xs, .ref xi, .ref xh, .int np, .int un])), (fa, .inr (0, [.int fst, .ref fb, .int fwy, .ref fc, .int fmk, .int fwt])), (fb, .inl (cI, 24, .inl fvl)), (fc, .inl (cI, 84, .inl fpt)), (na, .inr (2, [.ref nla, .ref nua, .ref nn, .int ntr])), (nla, .inr (1, [.int nlst, .int nlla, .int nlbw, .int nlbf, .int nlbd, .ref nlb, .ref nlc])), (nlb, .inl (cF, 6, .inr (.inr (.inl nlsh)))), (nlc, .inl (cF, 6, .inr (.inr (.inl nlsb)))), (nua, .inr (1, [.int nust, .int nula, .int nubw, .int nubf, .int nubd, .ref nub, .ref nuc])), (nub, .inl (cF, 6, .inr (.inr (.inl nush)))), (nuc, .inl (cF, 6, .inr (.inr (.inl nusb)))), (nn, .inl (cI, 3, .inl nnm))]) ⟨hx, hb, hml, hown, hts⟩ (c_X5_floatBits l D B adK adV cC cF cI cZ cM cS (nlsh k.toNatClampNeg)  r10 hc11) (va_cwS 1 hts gX5_bits_X5_floatBits rfl rfl rfl (by decide +kernel) ⟨Nat.le_of_ble_eq_true rfl, Nat.le_of_ble_eq_true rfl⟩) hK hP hD hS hB hE [] rfl rfl rfl rfl rfl hl.1 rfl (Nat.le_of_ble_eq_true rfl) dX5_bits_31 ⟨Nat.le_of_ble_eq_true rfl, Nat.le_of_ble_eq_true rfl⟩ (fun H locs hP hD hS => ?_)
        refine W.eq (g2 := F0 m 34 ls [.int r10]) rfl ?_
        have h1 := Option.some.inj hf
        subst h1
        rw [hQ]
        exact W.iret (v := r10) hx hb hr (fun t ht hW => qEnd hP hS ht) hS.2.2 dX5_bits_34
      · have hf := if_n c7 hf
        by_cases c12 : i = 1
        · have hf := if_p c12 hf
          refine W.eq (g2 := F0 m 23 ls [.int 1, .ref na]) (by rw [c12]) ?_
          obtain ⟨_, hc13, hf⟩ := bd_inv hf
          refine xcV (As := [.int 1]) (rest := []) (ws' := [(xa, .inr (5, [.ref ta, .ref fa, .ref da, .ref na, .ref ga, .ref xp, .ref xs, .ref xi, .ref xh, .int np, .int un])), (fa, .inr (0, [.int fst, .ref fb, .int fwy, .ref fc, .int fmk, .int fwt])), (fb, .inl (cI, 24, .inl fvl)), (fc, .inl (cI, 84, .inl fpt)), (na, .inr (2, [.ref nla, .ref nua, .ref nn, .int ntr])), (nla, .inr (1, [.int nlst, .int nlla, .int nlbw, .int nlbf, .int nlbd, .ref nlb, .ref nlc])), (nlb, .inl (cF, 6, .inr (.inr (.inl nlsh)))), (nlc, .inl (cF, 6, .inr (.inr (.inl nlsb)))), (nua, .inr (1, [.int nust, .int nula, .int nubw, .int nubf, .int nubd, .ref nub, .ref nuc])), (nub, .inl (cF, 6, .inr (.inr (.inl nush)))), (nuc, .inl (cF, 6, .inr (.inr (.inl nusb)))), (nn, .inl (cI, 3, .inl nnm))]) ⟨hx, hb, hml, hown, hts⟩ (c_X2_layerAt_1 l D B adK adV cC cF cI cZ cM cS na nla nua nn ntr nnm   hc13) (cwV 1 hts gX5_bits_X2_layerAt rfl rfl rfl (by decide +kernel) ⟨Nat.le_of_ble_eq_true rfl, Nat.le_of_ble_eq_true rfl⟩) (va_recv hK hP (ci := 2) (q0 := 4) rfl rfl) hK hP hD hS hB hE [4, 11] rfl rfl rfl rfl rfl hl.1 rfl (Nat.le_of_ble_eq_true rfl) dX5_bits_23 ⟨Nat.le_of_ble_eq_true rfl, Nat.le_of_ble_eq_true rfl⟩ (fun H locs hP hD hS => ?_)
          refine W.eq (g2 := F0 m 26 ls [.ref nua]) rfl ?_
          refine va_getN (D := D) (ci := 1) (v := .ref nub) (C := RX1) (T := TX1) (N := 7) hx hb hts w2 hown hK hP 8 rfl rfl 5 (by decide) w3 (fun _ h9 => h9) rfl dX5_bits_26 ?_
          refine lv_iload_n hx hb dX5_bits_29 rfl (lv_at hl 2 rfl) ?_
          obtain ⟨g14, hf⟩ := gd_inv hf
          refine va_fald hx hb hK hP 9 1 rfl rfl g14 dX5_bits_30 ?_
          obtain ⟨r15, hc16, hf⟩ := bd_inv hf
          refine xcS (As := [.float (nush k.toNatClampNeg)]) (rest := []) (ws' := [(xa, .inr (5, [.ref ta, .ref fa, .ref da, .ref na, .ref ga, .ref xp, .ref xs, .ref xi, .ref xh, .int np, .int un])), (fa, .inr (0, [.int fst, .ref fb, .int fwy, .ref fc, .int fmk, .int fwt])), (fb, .inl (cI, 24, .inl fvl)), (fc, .inl (cI, 84, .inl fpt)), (na, .inr (2, [.ref nla, .ref nua, .ref nn, .int ntr])), (nla, .inr (1, [.int nlst, .int nlla, .int nlbw, .int nlbf, .int nlbd, .ref nlb, .ref nlc])), (nlb, .inl (cF, 6, .inr (.inr (.inl nlsh)))), (nlc, .inl (cF, 6, .inr (.inr (.inl nlsb)))), (nua, .inr (1, [.int nust, .int nula, .int nubw, .int nubf, .int nubd, .ref nub, .ref nuc])), (nub, .inl (cF, 6, .inr (.inr (.inl nush)))), (nuc, .inl (cF, 6, .inr (.inr (.inl nusb)))), (nn, .inl (cI, 3, .inl nnm))]) ⟨hx, hb, hml, hown, hts⟩ (c_X5_floatBits l D B adK adV cC cF cI cZ cM cS (nush k.toNatClampNeg)  r15 hc16) (va_cwS 1 hts gX5_bits_X5_floatBits rfl rfl rfl (by decide +kernel) ⟨Nat.le_of_ble_eq_true rfl, Nat.le_of_ble_eq_true rfl⟩) hK hP hD hS hB hE [] rfl rfl rfl rfl rfl hl.1 rfl (Nat.le_of_ble_eq_true rfl) dX5_bits_31 ⟨Nat.le_of_ble_eq_true rfl, Nat.le_of_ble_eq_true rfl⟩ (fun H locs hP hD hS => ?_)
          refine W.eq (g2 := F0 m 34 ls [.int r15]) rfl ?_
          have h1 := Option.some.inj hf
          subst h1
          rw [hQ]
          exact W.iret (v := r15) hx hb hr (fun t ht hW => qEnd hP hS ht) hS.2.2 dX5_bits_34
        · have hf := if_n c12 hf
          cases hf
    · have hf := if_p c6 hf
      refine lv_bipush (v := (-2)) hx hb dX5_bits_15 (by decide) ?_
      have h1 := Option.some.inj hf
      subst h1
      rw [hQ]
      exact W.iret (v := (-2)) hx hb hr (fun t ht hW => qEnd hP hS ht) hS.2.2 dX5_bits_17
set_option maxRecDepth 100000 in
set_option maxHeartbeats 4000000 in
theorem c_X5_upperWeight (l : Launch) (D : va_G) (B : Nat) (adK adV : Nat → Nat) (cC cF cI cZ cM cS : ClassId) (xa : Nat) (ta : Nat) (fa : Nat) (da : Nat) (na : Nat) (ga : Nat) (xp : Nat) (xs : Nat) (xi : Nat) (xh : Nat) (np : Int32) (un : Int32) (fst : Int32) (fb : Nat) (fwy : Int32) (fc : Nat) (fmk : Int32) (fwt : Int32) (fvl : Nat → Int32) (fpt : Nat → Int32) (zz : UInt32) (hf : f_X5_upperWeight fwt = some zz) : Ct l yX5_upperWeight wsX5_upperWeight { frames := 0, cells := 0, slots := 0, locals := 0 } D B adK adV (tysX cC cF cI cZ cM cS) [.ref xa] [(xa, .inr (5, [.ref ta, .ref fa, .ref da, .ref na, .ref ga, .ref xp, .ref xs, .ref xi, .ref xh, .int np, .int un])), (fa, .inr (0, [.int fst, .ref fb, .int fwy, .ref fc, .int fmk, .int fwt])), (fb, .inl (cI, 24, .inl fvl)), (fc, .inl (cI, 84, .inl fpt))] [(xa, .inr (5, [.ref ta, .ref fa, .ref da, .ref na, .ref ga, .ref xp, .ref xs, .ref xi, .ref xh, .int np, .int un])), (fa, .inr (0, [.int fst, .ref fb, .int fwy, .ref fc, .int fmk, .int fwt])), (fb, .inl (cI, 24, .inl fvl)), (fc, .inl (cI, 84, .inl fpt))] (some (.float zz)) := by
  refine Ct.ofW (cc := cX5_upperWeight) (maxL := 1) (ret := (some .float)) (by decide) rfl (Nat.le_of_ble_eq_true rfl) ?_
  intro p e s m args below meth c hx hb hr hml hts hown hlocks hnm hK hE A Q hQ hB H locs ls hP hD hS hl
  have hl : lv_has ls 1 [(0, .ref xa)] := hl
  have w0 : ∀ w ∈ u_ws RX5 TX5 11, w ∈ wsX5_upperWeight := by decide +kernel
  have w1 := hts (.fieldLink RX5 19 "MotionStates" "told" "LMotionStates$Figure;") (by decide +kernel)
  have w2 : ∀ w ∈ u_ws RX0 TX0 6, w ∈ wsX5_upperWeight := by decide +kernel
  have w3 : (Cond.fieldLinkNest "MotionStates" 227 "MotionStates$Figure" "weight" "I" "MotionStates").before args s = true := va_Nw.use rfl (hE.1 ("MotionStates", 227, "MotionStates$Figure", "weight", "I", "MotionStates") (by decide +kernel))
  have w4 := hts (.constantFloat RX5 242 (1098907648)) (by decide +kernel)
  unfold f_X5_upperWeight at hf
  refine lv_aload_n hx hb dX5_upperWeight_0 rfl (lv_at hl 0 rfl) ?_
  refine va_get (D := D) (ci := 5) (v := .ref fa) (C := RX5) (T := TX5) (N := 11) hx hb hts w0 hown hK hP 0 rfl rfl 1 (by decide) w1 (fun _ h9 => h9) rfl dX5_upperWeight_1 ?_
  refine va_getN (D := D) (ci := 0) (v := .int fwt) (C := RX0) (T := TX0) (N := 6) hx hb hts w2 hown hK hP 1 rfl rfl 5 (by decide) w3 (fun _ h9 => h9) rfl dX5_upperWeight_4 ?_
  refine lv_i2f hx hb dX5_upperWeight_7 ?_
  refine lv_ldcf hx hb hown w4 dX5_upperWeight_8 ?_
  obtain ⟨g1, hf⟩ := gd_inv hf
  refine lv_fdiv hx hb dX5_upperWeight_10 g1 ?_
  have h1 := Option.some.inj hf
  subst h1
  rw [hQ]
  exact W.fret (v := (FP.fdiv (FP.i2f fwt) 1098907648)) hx hb hr (fun t ht hW => qEnd hP hS ht) hS.2.2 dX5_upperWeight_11
set_option maxRecDepth 100000 in
set_option maxHeartbeats 4000000 in
theorem c_X5_mixedLimb (l : Launch) (D : va_G) (B : Nat) (adK adV : Nat → Nat) (cC cF cI cZ cM cS : ClassId) (xa : Nat) (ta : Nat) (fa : Nat) (da : Nat) (na : Nat) (ga : Nat) (xp : Nat) (xs : Nat) (xi : Nat) (xh : Nat) (np : Int32) (un : Int32) (fst : Int32) (fb : Nat) (fwy : Int32) (fc : Nat) (fmk : Int32) (fwt : Int32) (fvl : Nat → Int32) (fpt : Nat → Int32) (nla : Nat) (nua : Nat) (nn : Nat) (ntr : Int32) (nlst : Int32) (nlla : Int32) (nlbw : Int32) (nlbf : Int32) (nlbd : Int32) (nlb : Nat) (nlc : Nat) (nlsh : Nat → UInt32) (nlsb : Nat → UInt32) (nust : Int32) (nula : Int32) (nubw : Int32) (nubf : Int32) (nubd : Int32) (nub : Nat) (nuc : Nat) (nush : Nat → UInt32) (nusb : Nat → UInt32) (nnm : Nat → Int32) (i : Int32) (zz : UInt32) (hf : f_X5_mixedLimb fst fmk fwt fvl nlsh nush i = some zz) : Ct l yX5_mixedLimb wsX5_mixedLimb { frames := 1, cells := 0, slots := 0, locals := 25 } D B adK adV (tysX cC cF cI cZ cM cS) [.ref xa, .int i] [(xa, .inr (5, [.ref ta, .ref fa, .ref da, .ref na, .ref ga, .ref xp, .ref xs, .ref xi, .ref xh, .int np, .int un])), (fa, .inr (0, [.int fst, .ref fb, .int fwy, .ref fc, .int fmk, .int fwt])), (fb, .inl (cI, 24, .inl fvl)), (fc, .inl (cI, 84, .inl fpt)), (na, .inr (2, [.ref nla, .ref nua, .ref nn, .int ntr])), (nla, .inr (1, [.int nlst, .int nlla, .int nlbw, .int nlbf, .int nlbd, .ref nlb, .ref nlc])), (nlb, .inl (cF, 6, .inr (.inr (.inl nlsh)))), (nlc, .inl (cF, 6, .inr (.inr (.inl nlsb)))), (nua, .inr (1, [.int nust, .int nula, .int nubw, .int nubf, .int nubd, .ref nub, .ref nuc])), (nub, .inl (cF, 6, .inr (.inr (.inl nush)))), (nuc, .inl (cF, 6, .inr (.inr (.inl nusb)))), (nn, .inl (cI, 3, .inl nnm))] [(xa, .inr (5, [.ref ta, .ref fa, .ref da, .ref na, .ref ga, .ref xp, .ref xs, .ref xi, .ref xh, .int np, .int un])), (fa, .inr (0, [.int fst, .ref fb, .int fwy, .ref fc, .int fmk, .int fwt])), (fb, .inl (cI, 24, .inl fvl)), (fc, .inl (cI, 84, .inl fpt)), (na, .inr (2, [.ref nla, .ref nua, .ref nn, .int ntr])), (nla, .inr (1, [.int nlst, .int nlla, .int nlbw, .int nlbf, .int nlbd, .ref nlb, .ref nlc])), (nlb, .inl (cF, 6, .inr (.inr (.inl nlsh)))), (nlc, .inl (cF, 6, .inr (.inr (.inl nlsb)))), (nua, .inr (1, [.int nust, .int nula, .int nubw, .int nubf, .int nubd, .ref nub, .ref nuc])), (nub, .inl (cF, 6, .inr (.inr (.inl nush)))), (nuc, .inl (cF, 6, .inr (.inr (.inl nusb)))), (nn, .inl (cI, 3, .inl nnm))] (some (.float zz)) := by
  refine Ct.ofW (cc := cX5_mixedLimb) (maxL := 6) (ret := (some .float)) (by decide) rfl (Nat.le_of_ble_eq_true rfl) ?_
  intro p e s m args below meth c hx hb hr hml hts hown hlocks hnm hK hE A Q hQ hB H locs ls hP hD hS hl
  have hl : lv_has ls 6 [(0, .ref xa), (1, .int i)] := hl
  have w0 : ∀ w ∈ u_ws RX5 TX5 11, w ∈ wsX5_mixedLimb := by decide +kernel
  have w1 := hts (.fieldLink RX5 29 "MotionStates" "now" "LMotionStates$Motion;") (by decide +kernel)
  have w2 : ∀ w ∈ u_ws RX2 TX2 4, w ∈ wsX5_mixedLimb := by decide +kernel
  have w3 : (Cond.fieldLinkNest "MotionStates" 116 "MotionStates$Motion" "lower" "LMotionStates$Layer;" "MotionStates").before args s = true := va_Nw.use rfl (hE.1 ("MotionStates", 116, "MotionStates$Motion", "lower", "LMotionStates$Layer;", "MotionStates") (by decide +kernel))
  have w4 := hts (.fieldLink RX5 19 "MotionStates" "told" "LMotionStates$Figure;") (by decide +kernel)
  have w5 : (Cond.fieldLinkNest "MotionStates" 250 "MotionStates$Motion" "upper" "LMotionStates$Layer;" "MotionStates").before args s = true := va_Nw.use rfl (hE.1 ("MotionStates", 250, "MotionStates$Motion", "upper", "LMotionStates$Layer;", "MotionStates") (by decide +kernel))
  unfold f_X5_mixedLimb at hf
  refine lv_aload_n hx hb dX5_mixedLimb_0 rfl (lv_at hl 0 rfl) ?_
  refine va_get (D := D) (ci := 5) (v := .ref na) (C := RX5) (T := TX5) (N := 11) hx hb hts w0 hown hK hP 0 rfl rfl 3 (by decide) w1 (fun _ h9 => h9) rfl dX5_mixedLimb_1 ?_
  refine va_getN (D := D) (ci := 2) (v := .ref nla) (C := RX2) (T := TX2) (N := 4) hx hb hts w2 hown hK hP 4 rfl rfl 0 (by decide) w3 (fun _ h9 => h9) rfl dX5_mixedLimb_4 ?_
  refine lv_aload_n hx hb dX5_mixedLimb_7 rfl (lv_at hl 0 rfl) ?_
  refine va_get (D := D) (ci := 5) (v := .ref fa) (C := RX5) (T := TX5) (N := 11) hx hb hts w0 hown hK hP 0 rfl rfl 1 (by decide) w4 (fun _ h9 => h9) rfl dX5_mixedLimb_8 ?_
  refine lv_iload_n hx hb dX5_mixedLimb_11 rfl (lv_at hl 1 rfl) ?_
  obtain ⟨r1, hc2, hf⟩ := bd_inv hf
  refine xcV (As := [.ref fa, .int i]) (rest := []) (ws' := [(xa, .inr (5, [.ref ta, .ref fa, .ref da, .ref na, .ref ga, .ref xp, .ref xs, .ref xi, .ref xh, .int np, .int un])), (fa, .inr (0, [.int fst, .ref fb, .int fwy, .ref fc, .int fmk, .int fwt])), (fb, .inl (cI, 24, .inl fvl)), (fc, .inl (cI, 84, .inl fpt)), (na, .inr (2, [.ref nla, .ref nua, .ref nn, .int ntr])), (nla, .inr (1, [.int nlst, .int nlla, .int nlbw, .int nlbf, .int nlbd, .ref nlb, .ref nlc])), (nlb, .inl (cF, 6, .inr (.inr (.inl nlsh)))), (nlc, .inl (cF, 6, .inr (.inr (.inl nlsb)))), (nua, .inr (1, [.int nust, .int nula, .int nubw, .int nubf, .int nubd, .ref nub, .ref nuc])), (nub, .inl (cF, 6, .inr (.inr (.inl nush)))), (nuc, .inl (cF, 6, .inr (.inr (.inl nusb)))), (nn, .inl (cI, 3, .inl nnm))]) ⟨hx, hb, hml, hown, hts⟩ (c_X1_limbOf l D B adK adV cC cF cI cZ cM cS nla nlst nlla nlbw nlbf nlbd nlb nlc nlsh nlsb fa fst fb fwy fc fmk fwt fvl fpt i  r1 hc2) (cwV 2 hts gX5_mixedLimb_X1_limbOf rfl rfl rfl (by decide +kernel) ⟨Nat.le_of_ble_eq_true rfl, Nat.le_of_ble_eq_true rfl⟩) (va_recv hK hP (ci := 1) (q0 := 5) rfl rfl) hK hP hD hS hB hE [5, 6, 7, 1, 2, 3] rfl rfl rfl rfl rfl hl.1 rfl (Nat.le_of_ble_eq_true rfl) dX5_mixedLimb_12 ⟨Nat.le_of_ble_eq_true rfl, Nat.le_of_ble_eq_true rfl⟩ (fun H locs hP hD hS => ?_)
  refine W.eq (g2 := F0 m 15 ls [.float r1]) rfl ?_
  refine lv_fstore_n (lv' := [(2, .float r1), (0, .ref xa), (1, .int i)]) hx hb dX5_mixedLimb_15 rfl hl (by decide) rfl (fun ls hl => ?_)
  refine lv_aload_n hx hb dX5_mixedLimb_16 rfl (lv_at hl 1 rfl) ?_
  refine va_get (D := D) (ci := 5) (v := .ref fa) (C := RX5) (T := TX5) (N := 11) hx hb hts w0 hown hK hP 0 rfl rfl 1 (by decide) w4 (fun _ h9 => h9) rfl dX5_mixedLimb_17 ?_
  refine lv_iload_n hx hb dX5_mixedLimb_20 rfl (lv_at hl 2 rfl) ?_
  obtain ⟨r3, hc4, hf⟩ := bd_inv hf
  refine xcV (As := [.int i]) (rest := []) (ws' := [(xa, .inr (5, [.ref ta, .ref fa, .ref da, .ref na, .ref ga, .ref xp, .ref xs, .ref xi, .ref xh, .int np, .int un])), (fa, .inr (0, [.int fst, .ref fb, .int fwy, .ref fc, .int fmk, .int fwt])), (fb, .inl (cI, 24, .inl fvl)), (fc, .inl (cI, 84, .inl fpt)), (na, .inr (2, [.ref nla, .ref nua, .ref nn, .int ntr])), (nla, .inr (1, [.int nlst, .int nlla, .int nlbw, .int nlbf, .int nlbd, .ref nlb, .ref nlc])), (nlb, .inl (cF, 6, .inr (.inr (.inl nlsh)))), (nlc, .inl (cF, 6, .inr (.inr (.inl nlsb)))), (nua, .inr (1, [.int nust, .int nula, .int nubw, .int nubf, .int nubd, .ref nub, .ref nuc])), (nub, .inl (cF, 6, .inr (.inr (.inl nush)))), (nuc, .inl (cF, 6, .inr (.inr (.inl nusb)))), (nn, .inl (cI, 3, .inl nnm))]) ⟨hx, hb, hml, hown, hts⟩ (c_X0_isMasked l D B adK adV cC cF cI cZ cM cS fa fst fb fwy fc fmk fwt fvl fpt i  r3 hc4) (cwV 1 hts gX5_mixedLimb_X0_isMasked rfl rfl rfl (by decide +kernel) ⟨Nat.le_of_ble_eq_true rfl, Nat.le_of_ble_eq_true rfl⟩) (va_recv hK hP (ci := 0) (q0 := 1) rfl rfl) hK hP hD hS hB hE [1, 2, 3] rfl rfl rfl rfl rfl hl.1 rfl (Nat.le_of_ble_eq_true rfl) dX5_mixedLimb_21 ⟨Nat.le_of_ble_eq_true rfl, Nat.le_of_ble_eq_true rfl⟩ (fun H locs hP hD hS => ?_)
  refine W.eq (g2 := F0 m 24 ls [.int r3]) rfl ?_
  refine lv_if_ne (tgt := 29) hx hb dX5_mixedLimb_24 (by decide) (fun c5 => ?_) (fun c5 => ?_)
  · have hf := if_n c5 hf
    refine lv_aload_n hx hb dX5_mixedLimb_29 rfl (lv_at hl 1 rfl) ?_
    refine va_get (D := D) (ci := 5) (v := .ref na) (C := RX5) (T := TX5) (N := 11) hx hb hts w0 hown hK hP 0 rfl rfl 3 (by decide) w1 (fun _ h9 => h9) rfl dX5_mixedLimb_30 ?_
    refine va_getN (D := D) (ci := 2) (v := .ref nua) (C := RX2) (T := TX2) (N := 4) hx hb hts w2 hown hK hP 4 rfl rfl 1 (by decide) w5 (fun _ h9 => h9) rfl dX5_mixedLimb_33 ?_
    refine lv_aload_n hx hb dX5_mixedLimb_36 rfl (lv_at hl 1 rfl) ?_
    refine va_get (D := D) (ci := 5) (v := .ref fa) (C := RX5) (T := TX5) (N := 11) hx hb hts w0 hown hK hP 0 rfl rfl 1 (by decide) w4 (fun _ h9 => h9) rfl dX5_mixedLimb_37 ?_
    refine lv_iload_n hx hb dX5_mixedLimb_40 rfl (lv_at hl 2 rfl) ?_
    obtain ⟨r6, hc7, hf⟩ := bd_inv hf
    refine xcV (As := [.ref fa, .int i]) (rest := []) (ws' := [(xa, .inr (5, [.ref ta, .ref fa, .ref da, .ref na, .ref ga, .ref xp, .ref xs, .ref xi, .ref xh, .int np, .int un])), (fa, .inr (0, [.int fst, .ref fb, .int fwy, .ref fc, .int fmk, .int fwt])), (fb, .inl (cI, 24, .inl fvl)), (fc, .inl (cI, 84, .inl fpt)), (na, .inr (2, [.ref nla, .ref nua, .ref nn, .int ntr])), (nla, .inr (1, [.int nlst, .int nlla, .int nlbw, .int nlbf, .int nlbd, .ref nlb, .ref nlc])), (nlb, .inl (cF, 6, .inr (.inr (.inl nlsh)))), (nlc, .inl (cF, 6, .inr (.inr (.inl nlsb)))), (nua, .inr (1, [.int nust, .int nula, .int nubw, .int nubf, .int nubd, .ref nub, .ref nuc])), (nub, .inl (cF, 6, .inr (.inr (.inl nush)))), (nuc, .inl (cF, 6, .inr (.inr (.inl nusb)))), (nn, .inl (cI, 3, .inl nnm))]) ⟨hx, hb, hml, hown, hts⟩ (c_X1_limbOf l D B adK adV cC cF cI cZ cM cS nua nust nula nubw nubf nubd nub nuc nush nusb fa fst fb fwy fc fmk fwt fvl fpt i  r6 hc7) (cwV 2 hts gX5_mixedLimb_X1_limbOf rfl rfl rfl (by decide +kernel) ⟨Nat.le_of_ble_eq_true rfl, Nat.le_of_ble_eq_true rfl⟩) (va_recv hK hP (ci := 1) (q0 := 8) rfl rfl) hK hP hD hS hB hE [8, 9, 10, 1, 2, 3] rfl rfl rfl rfl rfl hl.1 rfl (Nat.le_of_ble_eq_true rfl) dX5_mixedLimb_41 ⟨Nat.le_of_ble_eq_true rfl, Nat.le_of_ble_eq_true rfl⟩ (fun H locs hP hD hS => ?_)
    refine W.eq (g2 := F0 m 44 ls [.float r6]) rfl ?_
    refine lv_fstore_n (lv' := [(3, .float r6), (2, .float r1), (0, .ref xa), (1, .int i)]) hx hb dX5_mixedLimb_44 rfl hl (by decide) rfl (fun ls hl => ?_)
    refine lv_aload_n hx hb dX5_mixedLimb_45 rfl (lv_at hl 2 rfl) ?_
    obtain ⟨r8, hc9, hf⟩ := bd_inv hf
    refine xcV (As := []) (rest := []) (ws' := [(xa, .inr (5, [.ref ta, .ref fa, .ref da, .ref na, .ref ga, .ref xp, .ref xs, .ref xi, .ref xh, .int np, .int un])), (fa, .inr (0, [.int fst, .ref fb, .int fwy, .ref fc, .int fmk, .int fwt])), (fb, .inl (cI, 24, .inl fvl)), (fc, .inl (cI, 84, .inl fpt)), (na, .inr (2, [.ref nla, .ref nua, .ref nn, .int ntr])), (nla, .inr (1, [.int nlst, .int nlla, .int nlbw, .int nlbf, .int nlbd, .ref nlb, .ref nlc])), (nlb, .inl (cF, 6, .inr (.inr (.inl nlsh)))), (nlc, .inl (cF, 6, .inr (.inr (.inl nlsb)))), (nua, .inr (1, [.int nust, .int nula, .int nubw, .int nubf, .int nubd, .ref nub, .ref nuc])), (nub, .inl (cF, 6, .inr (.inr (.inl nush)))), (nuc, .inl (cF, 6, .inr (.inr (.inl nusb)))), (nn, .inl (cI, 3, .inl nnm))]) ⟨hx, hb, hml, hown, hts⟩ (c_X5_upperWeight l D B adK adV cC cF cI cZ cM cS xa ta fa da na ga xp xs xi xh np un fst fb fwy fc fmk fwt fvl fpt  r8 hc9) (cwV 0 hts gX5_mixedLimb_X5_upperWeight rfl rfl rfl (by decide +kernel) ⟨Nat.le_of_ble_eq_true rfl, Nat.le_of_ble_eq_true rfl⟩) (va_recv hK hP (ci := 5) (q0 := 0) rfl rfl) hK hP hD hS hB hE [0, 1, 2, 3] rfl rfl rfl rfl rfl hl.1 rfl (Nat.le_of_ble_eq_true rfl) dX5_mixedLimb_46 ⟨Nat.le_of_ble_eq_true rfl, Nat.le_of_ble_eq_true rfl⟩ (fun H locs hP hD hS => ?_)
    refine W.eq (g2 := F0 m 49 ls [.float r8]) rfl ?_
    refine lv_fstore (lv' := [(4, .float r8), (3, .float r6), (2, .float r1), (0, .ref xa), (1, .int i)]) hx hb dX5_mixedLimb_49 hl (by decide) rfl (fun ls hl => ?_)
    refine lv_fload_n hx hb dX5_mixedLimb_51 rfl (lv_at hl 2 rfl) ?_
    refine lv_fconst1 hx hb dX5_mixedLimb_52 ?_
    refine lv_fload hx hb dX5_mixedLimb_53 (lv_at hl 0 rfl) ?_
    obtain ⟨g10, hf⟩ := gd_inv hf
    refine lv_fsub hx hb dX5_mixedLimb_55 g10 ?_
    obtain ⟨g11, hf⟩ := gd_inv hf
    refine lv_fmul hx hb dX5_mixedLimb_56 g11 ?_
    refine lv_fstore (lv' := [(5, .float (FP.fmul r1 (FP.fsub FP.fconst1 r8))), (4, .float r8), (3, .float r6), (2, .float r1), (0, .ref xa), (1, .int i)]) hx hb dX5_mixedLimb_57 hl (by decide) rfl (fun ls hl => ?_)
    refine lv_fload hx hb dX5_mixedLimb_59 (lv_at hl 0 rfl) ?_
    refine lv_fload_n hx hb dX5_mixedLimb_61 rfl (lv_at hl 2 rfl) ?_
    refine lv_fload hx hb dX5_mixedLimb_62 (lv_at hl 1 rfl) ?_
    obtain ⟨g12, hf⟩ := gd_inv hf
    refine lv_fmul hx hb dX5_mixedLimb_64 g12 ?_
    obtain ⟨g13, hf⟩ := gd_inv hf
    refine lv_fadd hx hb dX5_mixedLimb_65 g13 ?_
    have h1 := Option.some.inj hf
    subst h1
    rw [hQ]
    exact W.fret (v := (FP.fadd (FP.fmul r1 (FP.fsub FP.fconst1 r8)) (FP.fmul r6 r8))) hx hb hr (fun t ht hW => qEnd hP hS ht) hS.2.2 dX5_mixedLimb_66
  · have hf := if_p c5 hf
    refine lv_fload_n hx hb dX5_mixedLimb_27 rfl (lv_at hl 0 rfl) ?_
    have h1 := Option.some.inj hf
    subst h1
    rw [hQ]
    exact W.fret (v := r1) hx hb hr (fun t ht hW => qEnd hP hS ht) hS.2.2 dX5_mixedLimb_28
set_option maxRecDepth 100000 in
set_option maxHeartbeats 4000000 in
theorem c_X5_isMinusZero (l : Launch) (D : va_G) (B : Nat) (adK adV : Nat → Nat) (cC cF cI cZ cM cS : ClassId) (xa : Nat) (ta : Nat) (fa : Nat) (da : Nat) (na : Nat) (ga : Nat) (xp : Nat) (xs : Nat) (xi : Nat) (xh : Nat) (np : Int32) (un : Int32) (fst : Int32) (fb : Nat) (fwy : Int32) (fc : Nat) (fmk : Int32) (fwt : Int32) (fvl : Nat → Int32) (fpt : Nat → Int32) (nla : Nat) (nua : Nat) (nn : Nat) (ntr : Int32) (nlst : Int32) (nlla : Int32) (nlbw : Int32) (nlbf : Int32) (nlbd : Int32) (nlb : Nat) (nlc : Nat) (nlsh : Nat → UInt32) (nlsb : Nat → UInt32) (nust : Int32) (nula : Int32) (nubw : Int32) (nubf : Int32) (nubd : Int32) (nub : Nat) (nuc : Nat) (nush : Nat → UInt32) (nusb : Nat → UInt32) (nnm : Nat → Int32) (i : Int32) (zz : Int32) (hf : f_X5_isMinusZero fst fmk fwt fvl nlsh nush i = some zz) : Ct l yX5_isMinusZero wsX5_isMinusZero { frames := 1, cells := 0, slots := 0, locals := 25 } D B adK adV (tysX cC cF cI cZ cM cS) [.ref xa, .int i] [(xa, .inr (5, [.ref ta, .ref fa, .ref da, .ref na, .ref ga, .ref xp, .ref xs, .ref xi, .ref xh, .int np, .int un])), (fa, .inr (0, [.int fst, .ref fb, .int fwy, .ref fc, .int fmk, .int fwt])), (fb, .inl (cI, 24, .inl fvl)), (fc, .inl (cI, 84, .inl fpt)), (na, .inr (2, [.ref nla, .ref nua, .ref nn, .int ntr])), (nla, .inr (1, [.int nlst, .int nlla, .int nlbw, .int nlbf, .int nlbd, .ref nlb, .ref nlc])), (nlb, .inl (cF, 6, .inr (.inr (.inl nlsh)))), (nlc, .inl (cF, 6, .inr (.inr (.inl nlsb)))), (nua, .inr (1, [.int nust, .int nula, .int nubw, .int nubf, .int nubd, .ref nub, .ref nuc])), (nub, .inl (cF, 6, .inr (.inr (.inl nush)))), (nuc, .inl (cF, 6, .inr (.inr (.inl nusb)))), (nn, .inl (cI, 3, .inl nnm))] [(xa, .inr (5, [.ref ta, .ref fa, .ref da, .ref na, .ref ga, .ref xp, .ref xs, .ref xi, .ref xh, .int np, .int un])), (fa, .inr (0, [.int fst, .ref fb, .int fwy, .ref fc, .int fmk, .int fwt])), (fb, .inl (cI, 24, .inl fvl)), (fc, .inl (cI, 84, .inl fpt)), (na, .inr (2, [.ref nla, .ref nua, .ref nn, .int ntr])), (nla, .inr (1, [.int nlst, .int nlla, .int nlbw, .int nlbf, .int nlbd, .ref nlb, .ref nlc])), (nlb, .inl (cF, 6, .inr (.inr (.inl nlsh)))), (nlc, .inl (cF, 6, .inr (.inr (.inl nlsb)))), (nua, .inr (1, [.int nust, .int nula, .int nubw, .int nubf, .int nubd, .ref nub, .ref nuc])), (nub, .inl (cF, 6, .inr (.inr (.inl nush)))), (nuc, .inl (cF, 6, .inr (.inr (.inl nusb)))), (nn, .inl (cI, 3, .inl nnm))] (some (.int zz)) := by
  refine Ct.ofW (cc := cX5_isMinusZero) (maxL := 5) (ret := (some .boolean)) (by decide) rfl (Nat.le_of_ble_eq_true rfl) ?_
  intro p e s m args below meth c hx hb hr hml hts hown hlocks hnm hK hE A Q hQ hB H locs ls hP hD hS hl
  have hl : lv_has ls 5 [(0, .ref xa), (1, .int i)] := hl
  have w0 : ∀ w ∈ u_ws RX5 TX5 11, w ∈ wsX5_isMinusZero := by decide +kernel
  have w1 := hts (.fieldLink RX5 19 "MotionStates" "told" "LMotionStates$Figure;") (by decide +kernel)
  have w2 := hts (.fieldLink RX5 29 "MotionStates" "now" "LMotionStates$Motion;") (by decide +kernel)
  have w3 : ∀ w ∈ u_ws RX2 TX2 4, w ∈ wsX5_isMinusZero := by decide +kernel
  have w4 : (Cond.fieldLinkNest "MotionStates" 116 "MotionStates$Motion" "lower" "LMotionStates$Layer;" "MotionStates").before args s = true := va_Nw.use rfl (hE.1 ("MotionStates", 116, "MotionStates$Motion", "lower", "LMotionStates$Layer;", "MotionStates") (by decide +kernel))
  have w5 : (Cond.fieldLinkNest "MotionStates" 250 "MotionStates$Motion" "upper" "LMotionStates$Layer;" "MotionStates").before args s = true := va_Nw.use rfl (hE.1 ("MotionStates", 250, "MotionStates$Motion", "upper", "LMotionStates$Layer;", "MotionStates") (by decide +kernel))
  unfold f_X5_isMinusZero at hf
  refine lv_aload_n hx hb dX5_isMinusZero_0 rfl (lv_at hl 0 rfl) ?_
  refine va_get (D := D) (ci := 5) (v := .ref fa) (C := RX5) (T := TX5) (N := 11) hx hb hts w0 hown hK hP 0 rfl rfl 1 (by decide) w1 (fun _ h9 => h9) rfl dX5_isMinusZero_1 ?_
  refine lv_iload_n hx hb dX5_isMinusZero_4 rfl (lv_at hl 1 rfl) ?_
  obtain ⟨r1, hc2, hf⟩ := bd_inv hf
  refine xcV (As := [.int i]) (rest := []) (ws' := [(xa, .inr (5, [.ref ta, .ref fa, .ref da, .ref na, .ref ga, .ref xp, .ref xs, .ref xi, .ref xh, .int np, .int un])), (fa, .inr (0, [.int fst, .ref fb, .int fwy, .ref fc, .int fmk, .int fwt])), (fb, .inl (cI, 24, .inl fvl)), (fc, .inl (cI, 84, .inl fpt)), (na, .inr (2, [.ref nla, .ref nua, .ref nn, .int ntr])), (nla, .inr (1, [.int nlst, .int nlla, .int nlbw, .int nlbf, .int nlbd, .ref nlb, .ref nlc])), (nlb, .inl (cF, 6, .inr (.inr (.inl nlsh)))), (nlc, .inl (cF, 6, .inr (.inr (.inl nlsb)))), (nua, .inr (1, [.int nust, .int nula, .int nubw, .int nubf, .int nubd, .ref nub, .ref nuc])), (nub, .inl (cF, 6, .inr (.inr (.inl nush)))), (nuc, .inl (cF, 6, .inr (.inr (.inl nusb)))), (nn, .inl (cI, 3, .inl nnm))]) ⟨hx, hb, hml, hown, hts⟩ (c_X0_isMasked l D B adK adV cC cF cI cZ cM cS fa fst fb fwy fc fmk fwt fvl fpt i  r1 hc2) (cwV 1 hts gX5_isMinusZero_X0_isMasked rfl rfl rfl (by decide +kernel) ⟨Nat.le_of_ble_eq_true rfl, Nat.le_of_ble_eq_true rfl⟩) (va_recv hK hP (ci := 0) (q0 := 1) rfl rfl) hK hP hD hS hB hE [1, 2, 3] rfl rfl rfl rfl rfl hl.1 rfl (Nat.le_of_ble_eq_true rfl) dX5_isMinusZero_5 ⟨Nat.le_of_ble_eq_true rfl, Nat.le_of_ble_eq_true rfl⟩ (fun H locs hP hD hS => ?_)
  refine W.eq (g2 := F0 m 8 ls [.int r1]) rfl ?_
  refine lv_if_ne (tgt := 13) hx hb dX5_isMinusZero_8 (by decide) (fun c3 => ?_) (fun c3 => ?_)
  · have hf := if_n c3 hf
    refine lv_aload_n hx hb dX5_isMinusZero_13 rfl (lv_at hl 0 rfl) ?_
    refine va_get (D := D) (ci := 5) (v := .ref na) (C := RX5) (T := TX5) (N := 11) hx hb hts w0 hown hK hP 0 rfl rfl 3 (by decide) w2 (fun _ h9 => h9) rfl dX5_isMinusZero_14 ?_
    refine va_getN (D := D) (ci := 2) (v := .ref nla) (C := RX2) (T := TX2) (N := 4) hx hb hts w3 hown hK hP 4 rfl rfl 0 (by decide) w4 (fun _ h9 => h9) rfl dX5_isMinusZero_17 ?_
    refine lv_aload_n hx hb dX5_isMinusZero_20 rfl (lv_at hl 0 rfl) ?_
    refine va_get (D := D) (ci := 5) (v := .ref fa) (C := RX5) (T := TX5) (N := 11) hx hb hts w0 hown hK hP 0 rfl rfl 1 (by decide) w1 (fun _ h9 => h9) rfl dX5_isMinusZero_21 ?_
    refine lv_iload_n hx hb dX5_isMinusZero_24 rfl (lv_at hl 1 rfl) ?_
    obtain ⟨r4, hc5, hf⟩ := bd_inv hf
    refine xcV (As := [.ref fa, .int i]) (rest := []) (ws' := [(xa, .inr (5, [.ref ta, .ref fa, .ref da, .ref na, .ref ga, .ref xp, .ref xs, .ref xi, .ref xh, .int np, .int un])), (fa, .inr (0, [.int fst, .ref fb, .int fwy, .ref fc, .int fmk, .int fwt])), (fb, .inl (cI, 24, .inl fvl)), (fc, .inl (cI, 84, .inl fpt)), (na, .inr (2, [.ref nla, .ref nua, .ref nn, .int ntr])), (nla, .inr (1, [.int nlst, .int nlla, .int nlbw, .int nlbf, .int nlbd, .ref nlb, .ref nlc])), (nlb, .inl (cF, 6, .inr (.inr (.inl nlsh)))), (nlc, .inl (cF, 6, .inr (.inr (.inl nlsb)))), (nua, .inr (1, [.int nust, .int nula, .int nubw, .int nubf, .int nubd, .ref nub, .ref nuc])), (nub, .inl (cF, 6, .inr (.inr (.inl nush)))), (nuc, .inl (cF, 6, .inr (.inr (.inl nusb)))), (nn, .inl (cI, 3, .inl nnm))]) ⟨hx, hb, hml, hown, hts⟩ (c_X1_limbOf l D B adK adV cC cF cI cZ cM cS nla nlst nlla nlbw nlbf nlbd nlb nlc nlsh nlsb fa fst fb fwy fc fmk fwt fvl fpt i  r4 hc5) (cwV 2 hts gX5_isMinusZero_X1_limbOf rfl rfl rfl (by decide +kernel) ⟨Nat.le_of_ble_eq_true rfl, Nat.le_of_ble_eq_true rfl⟩) (va_recv hK hP (ci := 1) (q0 := 5) rfl rfl) hK hP hD hS hB hE [5, 6, 7, 1, 2, 3] rfl rfl rfl rfl rfl hl.1 rfl (Nat.le_of_ble_eq_true rfl) dX5_isMinusZero_25 ⟨Nat.le_of_ble_eq_true rfl, Nat.le_of_ble_eq_true rfl⟩ (fun H locs hP hD hS => ?_)
    refine W.eq (g2 := F0 m 28 ls [.float r4]) rfl ?_
    refine lv_fstore_n (lv' := [(2, .float r4), (0, .ref xa), (1, .int i)]) hx hb dX5_isMinusZero_28 rfl hl (by decide) rfl (fun ls hl => ?_)
    refine lv_aload_n hx hb dX5_isMinusZero_29 rfl (lv_at hl 1 rfl) ?_
    refine va_get (D := D) (ci := 5) (v := .ref na) (C := RX5) (T := TX5) (N := 11) hx hb hts w0 hown hK hP 0 rfl rfl 3 (by decide) w2 (fun _ h9 => h9) rfl dX5_isMinusZero_30 ?_
    refine va_getN (D := D) (ci := 2) (v := .ref nua) (C := RX2) (T := TX2) (N := 4) hx hb hts w3 hown hK hP 4 rfl rfl 1 (by decide) w5 (fun _ h9 => h9) rfl dX5_isMinusZero_33 ?_
    refine lv_aload_n hx hb dX5_isMinusZero_36 rfl (lv_at hl 1 rfl) ?_
    refine va_get (D := D) (ci := 5) (v := .ref fa) (C := RX5) (T := TX5) (N := 11) hx hb hts w0 hown hK hP 0 rfl rfl 1 (by decide) w1 (fun _ h9 => h9) rfl dX5_isMinusZero_37 ?_
    refine lv_iload_n hx hb dX5_isMinusZero_40 rfl (lv_at hl 2 rfl) ?_
    obtain ⟨r6, hc7, hf⟩ := bd_inv hf
    refine xcV (As := [.ref fa, .int i]) (rest := []) (ws' := [(xa, .inr (5, [.ref ta, .ref fa, .ref da, .ref na, .ref ga, .ref xp, .ref xs, .ref xi, .ref xh, .int np, .int un])), (fa, .inr (0, [.int fst, .ref fb, .int fwy, .ref fc, .int fmk, .int fwt])), (fb, .inl (cI, 24, .inl fvl)), (fc, .inl (cI, 84, .inl fpt)), (na, .inr (2, [.ref nla, .ref nua, .ref nn, .int ntr])), (nla, .inr (1, [.int nlst, .int nlla, .int nlbw, .int nlbf, .int nlbd, .ref nlb, .ref nlc])), (nlb, .inl (cF, 6, .inr (.inr (.inl nlsh)))), (nlc, .inl (cF, 6, .inr (.inr (.inl nlsb)))), (nua, .inr (1, [.int nust, .int nula, .int nubw, .int nubf, .int nubd, .ref nub, .ref nuc])), (nub, .inl (cF, 6, .inr (.inr (.inl nush)))), (nuc, .inl (cF, 6, .inr (.inr (.inl nusb)))), (nn, .inl (cI, 3, .inl nnm))]) ⟨hx, hb, hml, hown, hts⟩ (c_X1_limbOf l D B adK adV cC cF cI cZ cM cS nua nust nula nubw nubf nubd nub nuc nush nusb fa fst fb fwy fc fmk fwt fvl fpt i  r6 hc7) (cwV 2 hts gX5_isMinusZero_X1_limbOf rfl rfl rfl (by decide +kernel) ⟨Nat.le_of_ble_eq_true rfl, Nat.le_of_ble_eq_true rfl⟩) (va_recv hK hP (ci := 1) (q0 := 8) rfl rfl) hK hP hD hS hB hE [8, 9, 10, 1, 2, 3] rfl rfl rfl rfl rfl hl.1 rfl (Nat.le_of_ble_eq_true rfl) dX5_isMinusZero_41 ⟨Nat.le_of_ble_eq_true rfl, Nat.le_of_ble_eq_true rfl⟩ (fun H locs hP hD hS => ?_)
    refine W.eq (g2 := F0 m 44 ls [.float r6]) rfl ?_
    refine lv_fstore_n (lv' := [(3, .float r6), (2, .float r4), (0, .ref xa), (1, .int i)]) hx hb dX5_isMinusZero_44 rfl hl (by decide) rfl (fun ls hl => ?_)
    refine lv_aload_n hx hb dX5_isMinusZero_45 rfl (lv_at hl 2 rfl) ?_
    obtain ⟨r8, hc9, hf⟩ := bd_inv hf
    refine xcV (As := []) (rest := []) (ws' := [(xa, .inr (5, [.ref ta, .ref fa, .ref da, .ref na, .ref ga, .ref xp, .ref xs, .ref xi, .ref xh, .int np, .int un])), (fa, .inr (0, [.int fst, .ref fb, .int fwy, .ref fc, .int fmk, .int fwt])), (fb, .inl (cI, 24, .inl fvl)), (fc, .inl (cI, 84, .inl fpt)), (na, .inr (2, [.ref nla, .ref nua, .ref nn, .int ntr])), (nla, .inr (1, [.int nlst, .int nlla, .int nlbw, .int nlbf, .int nlbd, .ref nlb, .ref nlc])), (nlb, .inl (cF, 6, .inr (.inr (.inl nlsh)))), (nlc, .inl (cF, 6, .inr (.inr (.inl nlsb)))), (nua, .inr (1, [.int nust, .int nula, .int nubw, .int nubf, .int nubd, .ref nub, .ref nuc])), (nub, .inl (cF, 6, .inr (.inr (.inl nush)))), (nuc, .inl (cF, 6, .inr (.inr (.inl nusb)))), (nn, .inl (cI, 3, .inl nnm))]) ⟨hx, hb, hml, hown, hts⟩ (c_X5_upperWeight l D B adK adV cC cF cI cZ cM cS xa ta fa da na ga xp xs xi xh np un fst fb fwy fc fmk fwt fvl fpt  r8 hc9) (cwV 0 hts gX5_isMinusZero_X5_upperWeight rfl rfl rfl (by decide +kernel) ⟨Nat.le_of_ble_eq_true rfl, Nat.le_of_ble_eq_true rfl⟩) (va_recv hK hP (ci := 5) (q0 := 0) rfl rfl) hK hP hD hS hB hE [0, 1, 2, 3] rfl rfl rfl rfl rfl hl.1 rfl (Nat.le_of_ble_eq_true rfl) dX5_isMinusZero_46 ⟨Nat.le_of_ble_eq_true rfl, Nat.le_of_ble_eq_true rfl⟩ (fun H locs hP hD hS => ?_)
    refine W.eq (g2 := F0 m 49 ls [.float r8]) rfl ?_
    refine lv_fstore (lv' := [(4, .float r8), (3, .float r6), (2, .float r4), (0, .ref xa), (1, .int i)]) hx hb dX5_isMinusZero_49 hl (by decide) rfl (fun ls hl => ?_)
    refine lv_fload_n hx hb dX5_isMinusZero_51 rfl (lv_at hl 2 rfl) ?_
    refine lv_fconst0 hx hb dX5_isMinusZero_52 ?_
    refine lv_fcmp hx hb dX5_isMinusZero_53 ?_
    refine lv_if_ge (tgt := 87) hx hb dX5_isMinusZero_54 (by decide) (fun c10 => ?_) (fun c10 => ?_)
    · have hf := if_p c10 hf
      refine lv_iconst (v := 0) hx hb dX5_isMinusZero_87 (by decide) ?_
      have h1 := Option.some.inj hf
      subst h1
      rw [hQ]
      exact W.zret (v := 0) (ty := .boolean) hx hb hr rfl (fun t ht hW => qEnd hP hS ht) hS.2.2 dX5_isMinusZero_88
    · have hf := if_n c10 hf
      refine lv_fload_n hx hb dX5_isMinusZero_57 rfl (lv_at hl 1 rfl) ?_
      refine lv_fconst0 hx hb dX5_isMinusZero_58 ?_
      refine lv_fcmp hx hb dX5_isMinusZero_59 ?_
      refine lv_if_ge (tgt := 87) hx hb dX5_isMinusZero_60 (by decide) (fun c11 => ?_) (fun c11 => ?_)
      · have hf := if_p c11 hf
        refine lv_iconst (v := 0) hx hb dX5_isMinusZero_87 (by decide) ?_
        have h1 := Option.some.inj hf
        subst h1
        rw [hQ]
        exact W.zret (v := 0) (ty := .boolean) hx hb hr rfl (fun t ht hW => qEnd hP hS ht) hS.2.2 dX5_isMinusZero_88
      · have hf := if_n c11 hf
        refine lv_fload_n hx hb dX5_isMinusZero_63 rfl (lv_at hl 2 rfl) ?_
        refine lv_fconst1 hx hb dX5_isMinusZero_64 ?_
        refine lv_fload hx hb dX5_isMinusZero_65 (lv_at hl 0 rfl) ?_
        obtain ⟨g12, hf⟩ := gd_inv hf
        refine lv_fsub hx hb dX5_isMinusZero_67 g12 ?_
        obtain ⟨g13, hf⟩ := gd_inv hf
        refine lv_fmul hx hb dX5_isMinusZero_68 g13 ?_
        refine lv_fconst0 hx hb dX5_isMinusZero_69 ?_
        refine lv_fcmp hx hb dX5_isMinusZero_70 ?_
        refine lv_if_ne (tgt := 87) hx hb dX5_isMinusZero_71 (by decide) (fun c14 => ?_) (fun c14 => ?_)
        · have hf := if_n c14 hf
          refine lv_iconst (v := 0) hx hb dX5_isMinusZero_87 (by decide) ?_
          have h1 := Option.some.inj hf
          subst h1
          rw [hQ]
          exact W.zret (v := 0) (ty := .boolean) hx hb hr rfl (fun t ht hW => qEnd hP hS ht) hS.2.2 dX5_isMinusZero_88
        · have hf := if_p c14 hf
          refine lv_fload_n hx hb dX5_isMinusZero_74 rfl (lv_at hl 1 rfl) ?_
          refine lv_fload hx hb dX5_isMinusZero_75 (lv_at hl 0 rfl) ?_
          obtain ⟨g15, hf⟩ := gd_inv hf
          refine lv_fmul hx hb dX5_isMinusZero_77 g15 ?_
          refine lv_fconst0 hx hb dX5_isMinusZero_78 ?_
          refine lv_fcmp hx hb dX5_isMinusZero_79 ?_
          refine lv_if_ne (tgt := 87) hx hb dX5_isMinusZero_80 (by decide) (fun c16 => ?_) (fun c16 => ?_)
          · have hf := if_n c16 hf
            refine lv_iconst (v := 0) hx hb dX5_isMinusZero_87 (by decide) ?_
            have h1 := Option.some.inj hf
            subst h1
            rw [hQ]
            exact W.zret (v := 0) (ty := .boolean) hx hb hr rfl (fun t ht hW => qEnd hP hS ht) hS.2.2 dX5_isMinusZero_88
          · have hf := if_p c16 hf
            refine lv_iconst (v := 1) hx hb dX5_isMinusZero_83 (by decide) ?_
            refine lv_goto (tgt := 88) hx hb dX5_isMinusZero_84 (by decide) ?_
            have h1 := Option.some.inj hf
            subst h1
            rw [hQ]
            exact W.zret (v := 1) (ty := .boolean) hx hb hr rfl (fun t ht hW => qEnd hP hS ht) hS.2.2 dX5_isMinusZero_88
  · have hf := if_p c3 hf
    refine lv_iconst (v := 0) hx hb dX5_isMinusZero_11 (by decide) ?_
    have h1 := Option.some.inj hf
    subst h1
    rw [hQ]
    exact W.zret (v := 0) (ty := .boolean) hx hb hr rfl (fun t ht hW => qEnd hP hS ht) hS.2.2 dX5_isMinusZero_12
set_option maxRecDepth 100000 in
set_option maxHeartbeats 4000000 in
theorem c_X5_limb (l : Launch) (D : va_G) (B : Nat) (adK adV : Nat → Nat) (cC cF cI cZ cM cS : ClassId) (xa : Nat) (ta : Nat) (fa : Nat) (da : Nat) (na : Nat) (ga : Nat) (xp : Nat) (xs : Nat) (xi : Nat) (xh : Nat) (np : Int32) (un : Int32) (fst : Int32) (fb : Nat) (fwy : Int32) (fc : Nat) (fmk : Int32) (fwt : Int32) (fvl : Nat → Int32) (fpt : Nat → Int32) (nla : Nat) (nua : Nat) (nn : Nat) (ntr : Int32) (nlst : Int32) (nlla : Int32) (nlbw : Int32) (nlbf : Int32) (nlbd : Int32) (nlb : Nat) (nlc : Nat) (nlsh : Nat → UInt32) (nlsb : Nat → UInt32) (nust : Int32) (nula : Int32) (nubw : Int32) (nubf : Int32) (nubd : Int32) (nub : Nat) (nuc : Nat) (nush : Nat → UInt32) (nusb : Nat → UInt32) (nnm : Nat → Int32) (i : Int32) (zz : Int32) (hf : f_X5_limb fst fmk fwt fvl nlsh nush i = some zz) : Ct l yX5_limb wsX5_limb { frames := 2, cells := 0, slots := 0, locals := 50 } D B adK adV (tysX cC cF cI cZ cM cS) [.ref xa, .int i] [(xa, .inr (5, [.ref ta, .ref fa, .ref da, .ref na, .ref ga, .ref xp, .ref xs, .ref xi, .ref xh, .int np, .int un])), (fa, .inr (0, [.int fst, .ref fb, .int fwy, .ref fc, .int fmk, .int fwt])), (fb, .inl (cI, 24, .inl fvl)), (fc, .inl (cI, 84, .inl fpt)), (na, .inr (2, [.ref nla, .ref nua, .ref nn, .int ntr])), (nla, .inr (1, [.int nlst, .int nlla, .int nlbw, .int nlbf, .int nlbd, .ref nlb, .ref nlc])), (nlb, .inl (cF, 6, .inr (.inr (.inl nlsh)))), (nlc, .inl (cF, 6, .inr (.inr (.inl nlsb)))), (nua, .inr (1, [.int nust, .int nula, .int nubw, .int nubf, .int nubd, .ref nub, .ref nuc])), (nub, .inl (cF, 6, .inr (.inr (.inl nush)))), (nuc, .inl (cF, 6, .inr (.inr (.inl nusb)))), (nn, .inl (cI, 3, .inl nnm))] [(xa, .inr (5, [.ref ta, .ref fa, .ref da, .ref na, .ref ga, .ref xp, .ref xs, .ref xi, .ref xh, .int np, .int un])), (fa, .inr (0, [.int fst, .ref fb, .int fwy, .ref fc, .int fmk, .int fwt])), (fb, .inl (cI, 24, .inl fvl)), (fc, .inl (cI, 84, .inl fpt)), (na, .inr (2, [.ref nla, .ref nua, .ref nn, .int ntr])), (nla, .inr (1, [.int nlst, .int nlla, .int nlbw, .int nlbf, .int nlbd, .ref nlb, .ref nlc])), (nlb, .inl (cF, 6, .inr (.inr (.inl nlsh)))), (nlc, .inl (cF, 6, .inr (.inr (.inl nlsb)))), (nua, .inr (1, [.int nust, .int nula, .int nubw, .int nubf, .int nubd, .ref nub, .ref nuc])), (nub, .inl (cF, 6, .inr (.inr (.inl nush)))), (nuc, .inl (cF, 6, .inr (.inr (.inl nusb)))), (nn, .inl (cI, 3, .inl nnm))] (some (.int zz)) := by
  refine Ct.ofW (cc := cX5_limb) (maxL := 2) (ret := (some .int)) (by decide) rfl (Nat.le_of_ble_eq_true rfl) ?_
  intro p e s m args below meth c hx hb hr hml hts hown hlocks hnm hK hE A Q hQ hB H locs ls hP hD hS hl
  have hl : lv_has ls 2 [(0, .ref xa), (1, .int i)] := hl
  have w0 : ∀ w ∈ u_ws RX5 TX5 11, w ∈ wsX5_limb := by decide +kernel
  have w1 := hts (.fieldLink RX5 19 "MotionStates" "told" "LMotionStates$Figure;") (by decide +kernel)
  have w2 : ∀ w ∈ u_ws RX0 TX0 6, w ∈ wsX5_limb := by decide +kernel
  have w3 : (Cond.fieldLinkNest "MotionStates" 110 "MotionStates$Figure" "states" "I" "MotionStates").before args s = true := va_Nw.use rfl (hE.1 ("MotionStates", 110, "MotionStates$Figure", "states", "I", "MotionStates") (by decide +kernel))
  have w4 := hts (.constantFloat RX5 164 (1149239296)) (by decide +kernel)
  have w5 := hts (.constant RX5 165 (1000000)) (by decide +kernel)
  unfold f_X5_limb at hf
  refine lv_iload_n hx hb dX5_limb_0 rfl (lv_at hl 1 rfl) ?_
  obtain ⟨r1, hc2, hf⟩ := bd_inv hf
  refine xcS (As := [.int i]) (rest := []) (ws' := [(xa, .inr (5, [.ref ta, .ref fa, .ref da, .ref na, .ref ga, .ref xp, .ref xs, .ref xi, .ref xh, .int np, .int un])), (fa, .inr (0, [.int fst, .ref fb, .int fwy, .ref fc, .int fmk, .int fwt])), (fb, .inl (cI, 24, .inl fvl)), (fc, .inl (cI, 84, .inl fpt)), (na, .inr (2, [.ref nla, .ref nua, .ref nn, .int ntr])), (nla, .inr (1, [.int nlst, .int nlla, .int nlbw, .int nlbf, .int nlbd, .ref nlb, .ref nlc])), (nlb, .inl (cF, 6, .inr (.inr (.inl nlsh)))), (nlc, .inl (cF, 6, .inr (.inr (.inl nlsb)))), (nua, .inr (1, [.int nust, .int nula, .int nubw, .int nubf, .int nubd, .ref nub, .ref nuc])), (nub, .inl (cF, 6, .inr (.inr (.inl nush)))), (nuc, .inl (cF, 6, .inr (.inr (.inl nusb)))), (nn, .inl (cI, 3, .inl nnm))]) ⟨hx, hb, hml, hown, hts⟩ (c_X5_isLimb l D B adK adV cC cF cI cZ cM cS i  r1 hc2) (va_cwS 1 hts gX5_limb_X5_isLimb rfl rfl rfl (by decide +kernel) ⟨Nat.le_of_ble_eq_true rfl, Nat.le_of_ble_eq_true rfl⟩) hK hP hD hS hB hE [] rfl rfl rfl rfl rfl hl.1 rfl (Nat.le_of_ble_eq_true rfl) dX5_limb_1 ⟨Nat.le_of_ble_eq_true rfl, Nat.le_of_ble_eq_true rfl⟩ (fun H locs hP hD hS => ?_)
  refine W.eq (g2 := F0 m 4 ls [.int r1]) rfl ?_
  refine lv_if_ne (tgt := 10) hx hb dX5_limb_4 (by decide) (fun c3 => ?_) (fun c3 => ?_)
  · have hf := if_n c3 hf
    refine lv_aload_n hx hb dX5_limb_10 rfl (lv_at hl 0 rfl) ?_
    refine va_get (D := D) (ci := 5) (v := .ref fa) (C := RX5) (T := TX5) (N := 11) hx hb hts w0 hown hK hP 0 rfl rfl 1 (by decide) w1 (fun _ h9 => h9) rfl dX5_limb_11 ?_
    refine va_getN (D := D) (ci := 0) (v := .int fst) (C := RX0) (T := TX0) (N := 6) hx hb hts w2 hown hK hP 1 rfl rfl 0 (by decide) w3 (fun _ h9 => h9) rfl dX5_limb_14 ?_
    refine lv_if_ne (tgt := 23) hx hb dX5_limb_17 (by decide) (fun c4 => ?_) (fun c4 => ?_)
    · have hf := if_n c4 hf
      refine lv_aload_n hx hb dX5_limb_23 rfl (lv_at hl 0 rfl) ?_
      refine lv_iload_n hx hb dX5_limb_24 rfl (lv_at hl 1 rfl) ?_
      obtain ⟨r5, hc6, hf⟩ := bd_inv hf
      refine xcV (As := [.int i]) (rest := []) (ws' := [(xa, .inr (5, [.ref ta, .ref fa, .ref da, .ref na, .ref ga, .ref xp, .ref xs, .ref xi, .ref xh, .int np, .int un])), (fa, .inr (0, [.int fst, .ref fb, .int fwy, .ref fc, .int fmk, .int fwt])), (fb, .inl (cI, 24, .inl fvl)), (fc, .inl (cI, 84, .inl fpt)), (na, .inr (2, [.ref nla, .ref nua, .ref nn, .int ntr])), (nla, .inr (1, [.int nlst, .int nlla, .int nlbw, .int nlbf, .int nlbd, .ref nlb, .ref nlc])), (nlb, .inl (cF, 6, .inr (.inr (.inl nlsh)))), (nlc, .inl (cF, 6, .inr (.inr (.inl nlsb)))), (nua, .inr (1, [.int nust, .int nula, .int nubw, .int nubf, .int nubd, .ref nub, .ref nuc])), (nub, .inl (cF, 6, .inr (.inr (.inl nush)))), (nuc, .inl (cF, 6, .inr (.inr (.inl nusb)))), (nn, .inl (cI, 3, .inl nnm))]) ⟨hx, hb, hml, hown, hts⟩ (c_X5_mixedLimb l D B adK adV cC cF cI cZ cM cS xa ta fa da na ga xp xs xi xh np un fst fb fwy fc fmk fwt fvl fpt nla nua nn ntr nlst nlla nlbw nlbf nlbd nlb nlc nlsh nlsb nust nula nubw nubf nubd nub nuc nush nusb nnm i  r5 hc6) (cwV 1 hts gX5_limb_X5_mixedLimb rfl rfl rfl (by decide +kernel) ⟨Nat.le_of_ble_eq_true rfl, Nat.le_of_ble_eq_true rfl⟩) (va_recv hK hP (ci := 5) (q0 := 0) rfl rfl) hK hP hD hS hB hE [0, 1, 2, 3, 4, 5, 6, 7, 8, 9, 10, 11] rfl rfl rfl rfl rfl hl.1 rfl (Nat.le_of_ble_eq_true rfl) dX5_limb_25 ⟨Nat.le_of_ble_eq_true rfl, Nat.le_of_ble_eq_true rfl⟩ (fun H locs hP hD hS => ?_)
      refine W.eq (g2 := F0 m 28 ls [.float r5]) rfl ?_
      refine lv_ldcf hx hb hown w4 dX5_limb_28 ?_
      obtain ⟨g7, hf⟩ := gd_inv hf
      refine lv_fmul hx hb dX5_limb_30 g7 ?_
      refine lv_f2i hx hb dX5_limb_31 ?_
      refine lv_ldc hx hb hown w5 dX5_limb_32 ?_
      refine lv_iadd hx hb dX5_limb_34 ?_
      have h1 := Option.some.inj hf
      subst h1
      rw [hQ]
      exact W.iret (v := ((FP.f2i (FP.fmul r5 1149239296)) + 1000000)) hx hb hr (fun t ht hW => qEnd hP hS ht) hS.2.2 dX5_limb_35
    · have hf := if_p c4 hf
      refine lv_bipush (v := (-4)) hx hb dX5_limb_20 (by decide) ?_
      have h1 := Option.some.inj hf
      subst h1
      rw [hQ]
      exact W.iret (v := (-4)) hx hb hr (fun t ht hW => qEnd hP hS ht) hS.2.2 dX5_limb_22
  · have hf := if_p c3 hf
    refine lv_bipush (v := (-2)) hx hb dX5_limb_7 (by decide) ?_
    have h1 := Option.some.inj hf
    subst h1
    rw [hQ]
    exact W.iret (v := (-2)) hx hb hr (fun t ht hW => qEnd hP hS ht) hS.2.2 dX5_limb_9
set_option maxRecDepth 100000 in
set_option maxHeartbeats 4000000 in
theorem c_X5_exact (l : Launch) (D : va_G) (B : Nat) (adK adV : Nat → Nat) (cC cF cI cZ cM cS : ClassId) (xa : Nat) (ta : Nat) (fa : Nat) (da : Nat) (na : Nat) (ga : Nat) (xp : Nat) (xs : Nat) (xi : Nat) (xh : Nat) (np : Int32) (un : Int32) (fst : Int32) (fb : Nat) (fwy : Int32) (fc : Nat) (fmk : Int32) (fwt : Int32) (fvl : Nat → Int32) (fpt : Nat → Int32) (nla : Nat) (nua : Nat) (nn : Nat) (ntr : Int32) (nlst : Int32) (nlla : Int32) (nlbw : Int32) (nlbf : Int32) (nlbd : Int32) (nlb : Nat) (nlc : Nat) (nlsh : Nat → UInt32) (nlsb : Nat → UInt32) (nust : Int32) (nula : Int32) (nubw : Int32) (nubf : Int32) (nubd : Int32) (nub : Nat) (nuc : Nat) (nush : Nat → UInt32) (nusb : Nat → UInt32) (nnm : Nat → Int32) (i : Int32) (zz : Int64) (hf : f_X5_exact fst fmk fwt fvl nlsh nush i = some zz) : Ct l yX5_exact wsX5_exact { frames := 2, cells := 0, slots := 0, locals := 50 } D B adK adV (tysX cC cF cI cZ cM cS) [.ref xa, .int i] [(xa, .inr (5, [.ref ta, .ref fa, .ref da, .ref na, .ref ga, .ref xp, .ref xs, .ref xi, .ref xh, .int np, .int un])), (fa, .inr (0, [.int fst, .ref fb, .int fwy, .ref fc, .int fmk, .int fwt])), (fb, .inl (cI, 24, .inl fvl)), (fc, .inl (cI, 84, .inl fpt)), (na, .inr (2, [.ref nla, .ref nua, .ref nn, .int ntr])), (nla, .inr (1, [.int nlst, .int nlla, .int nlbw, .int nlbf, .int nlbd, .ref nlb, .ref nlc])), (nlb, .inl (cF, 6, .inr (.inr (.inl nlsh)))), (nlc, .inl (cF, 6, .inr (.inr (.inl nlsb)))), (nua, .inr (1, [.int nust, .int nula, .int nubw, .int nubf, .int nubd, .ref nub, .ref nuc])), (nub, .inl (cF, 6, .inr (.inr (.inl nush)))), (nuc, .inl (cF, 6, .inr (.inr (.inl nusb)))), (nn, .inl (cI, 3, .inl nnm))] [(xa, .inr (5, [.ref ta, .ref fa, .ref da, .ref na, .ref ga, .ref xp, .ref xs, .ref xi, .ref xh, .int np, .int un])), (fa, .inr (0, [.int fst, .ref fb, .int fwy, .ref fc, .int fmk, .int fwt])), (fb, .inl (cI, 24, .inl fvl)), (fc, .inl (cI, 84, .inl fpt)), (na, .inr (2, [.ref nla, .ref nua, .ref nn, .int ntr])), (nla, .inr (1, [.int nlst, .int nlla, .int nlbw, .int nlbf, .int nlbd, .ref nlb, .ref nlc])), (nlb, .inl (cF, 6, .inr (.inr (.inl nlsh)))), (nlc, .inl (cF, 6, .inr (.inr (.inl nlsb)))), (nua, .inr (1, [.int nust, .int nula, .int nubw, .int nubf, .int nubd, .ref nub, .ref nuc])), (nub, .inl (cF, 6, .inr (.inr (.inl nush)))), (nuc, .inl (cF, 6, .inr (.inr (.inl nusb)))), (nn, .inl (cI, 3, .inl nnm))] (some (.long zz)) := by
  refine Ct.ofW (cc := cX5_exact) (maxL := 3) (ret := (some .long)) (by decide) rfl (Nat.le_of_ble_eq_true rfl) ?_
  intro p e s m args below meth c hx hb hr hml hts hown hlocks hnm hK hE A Q hQ hB H locs ls hP hD hS hl
  have hl : lv_has ls 3 [(0, .ref xa), (1, .int i)] := hl
  have w0 : ∀ w ∈ u_ws RX5 TX5 11, w ∈ wsX5_exact := by decide +kernel
  have w1 := hts (.fieldLink RX5 19 "MotionStates" "told" "LMotionStates$Figure;") (by decide +kernel)
  have w2 : ∀ w ∈ u_ws RX0 TX0 6, w ∈ wsX5_exact := by decide +kernel
  have w3 : (Cond.fieldLinkNest "MotionStates" 110 "MotionStates$Figure" "states" "I" "MotionStates").before args s = true := va_Nw.use rfl (hE.1 ("MotionStates", 110, "MotionStates$Figure", "states", "I", "MotionStates") (by decide +kernel))
  have w4 := hts (.constantLong RX5 173 (-9223372036854775808)) (by decide +kernel)
  have w5 := hts (.constantLong RX5 168 (-4)) (by decide +kernel)
  have w6 := hts (.constantLong RX5 166 (-2)) (by decide +kernel)
  unfold f_X5_exact at hf
  refine lv_iload_n hx hb dX5_exact_0 rfl (lv_at hl 1 rfl) ?_
  obtain ⟨r1, hc2, hf⟩ := bd_inv hf
  refine xcS (As := [.int i]) (rest := []) (ws' := [(xa, .inr (5, [.ref ta, .ref fa, .ref da, .ref na, .ref ga, .ref xp, .ref xs, .ref xi, .ref xh, .int np, .int un])), (fa, .inr (0, [.int fst, .ref fb, .int fwy, .ref fc, .int fmk, .int fwt])), (fb, .inl (cI, 24, .inl fvl)), (fc, .inl (cI, 84, .inl fpt)), (na, .inr (2, [.ref nla, .ref nua, .ref nn, .int ntr])), (nla, .inr (1, [.int nlst, .int nlla, .int nlbw, .int nlbf, .int nlbd, .ref nlb, .ref nlc])), (nlb, .inl (cF, 6, .inr (.inr (.inl nlsh)))), (nlc, .inl (cF, 6, .inr (.inr (.inl nlsb)))), (nua, .inr (1, [.int nust, .int nula, .int nubw, .int nubf, .int nubd, .ref nub, .ref nuc])), (nub, .inl (cF, 6, .inr (.inr (.inl nush)))), (nuc, .inl (cF, 6, .inr (.inr (.inl nusb)))), (nn, .inl (cI, 3, .inl nnm))]) ⟨hx, hb, hml, hown, hts⟩ (c_X5_isLimb l D B adK adV cC cF cI cZ cM cS i  r1 hc2) (va_cwS 1 hts gX5_exact_X5_isLimb rfl rfl rfl (by decide +kernel) ⟨Nat.le_of_ble_eq_true rfl, Nat.le_of_ble_eq_true rfl⟩) hK hP hD hS hB hE [] rfl rfl rfl rfl rfl hl.1 rfl (Nat.le_of_ble_eq_true rfl) dX5_exact_1 ⟨Nat.le_of_ble_eq_true rfl, Nat.le_of_ble_eq_true rfl⟩ (fun H locs hP hD hS => ?_)
  refine W.eq (g2 := F0 m 4 ls [.int r1]) rfl ?_
  refine lv_if_ne (tgt := 11) hx hb dX5_exact_4 (by decide) (fun c3 => ?_) (fun c3 => ?_)
  · have hf := if_n c3 hf
    refine lv_aload_n hx hb dX5_exact_11 rfl (lv_at hl 0 rfl) ?_
    refine va_get (D := D) (ci := 5) (v := .ref fa) (C := RX5) (T := TX5) (N := 11) hx hb hts w0 hown hK hP 0 rfl rfl 1 (by decide) w1 (fun _ h9 => h9) rfl dX5_exact_12 ?_
    refine va_getN (D := D) (ci := 0) (v := .int fst) (C := RX0) (T := TX0) (N := 6) hx hb hts w2 hown hK hP 1 rfl rfl 0 (by decide) w3 (fun _ h9 => h9) rfl dX5_exact_15 ?_
    refine lv_if_ne (tgt := 25) hx hb dX5_exact_18 (by decide) (fun c4 => ?_) (fun c4 => ?_)
    · have hf := if_n c4 hf
      refine lv_aload_n hx hb dX5_exact_25 rfl (lv_at hl 0 rfl) ?_
      refine lv_iload_n hx hb dX5_exact_26 rfl (lv_at hl 1 rfl) ?_
      obtain ⟨r5, hc6, hf⟩ := bd_inv hf
      refine xcV (As := [.int i]) (rest := []) (ws' := [(xa, .inr (5, [.ref ta, .ref fa, .ref da, .ref na, .ref ga, .ref xp, .ref xs, .ref xi, .ref xh, .int np, .int un])), (fa, .inr (0, [.int fst, .ref fb, .int fwy, .ref fc, .int fmk, .int fwt])), (fb, .inl (cI, 24, .inl fvl)), (fc, .inl (cI, 84, .inl fpt)), (na, .inr (2, [.ref nla, .ref nua, .ref nn, .int ntr])), (nla, .inr (1, [.int nlst, .int nlla, .int nlbw, .int nlbf, .int nlbd, .ref nlb, .ref nlc])), (nlb, .inl (cF, 6, .inr (.inr (.inl nlsh)))), (nlc, .inl (cF, 6, .inr (.inr (.inl nlsb)))), (nua, .inr (1, [.int nust, .int nula, .int nubw, .int nubf, .int nubd, .ref nub, .ref nuc])), (nub, .inl (cF, 6, .inr (.inr (.inl nush)))), (nuc, .inl (cF, 6, .inr (.inr (.inl nusb)))), (nn, .inl (cI, 3, .inl nnm))]) ⟨hx, hb, hml, hown, hts⟩ (c_X5_mixedLimb l D B adK adV cC cF cI cZ cM cS xa ta fa da na ga xp xs xi xh np un fst fb fwy fc fmk fwt fvl fpt nla nua nn ntr nlst nlla nlbw nlbf nlbd nlb nlc nlsh nlsb nust nula nubw nubf nubd nub nuc nush nusb nnm i  r5 hc6) (cwV 1 hts gX5_exact_X5_mixedLimb rfl rfl rfl (by decide +kernel) ⟨Nat.le_of_ble_eq_true rfl, Nat.le_of_ble_eq_true rfl⟩) (va_recv hK hP (ci := 5) (q0 := 0) rfl rfl) hK hP hD hS hB hE [0, 1, 2, 3, 4, 5, 6, 7, 8, 9, 10, 11] rfl rfl rfl rfl rfl hl.1 rfl (Nat.le_of_ble_eq_true rfl) dX5_exact_27 ⟨Nat.le_of_ble_eq_true rfl, Nat.le_of_ble_eq_true rfl⟩ (fun H locs hP hD hS => ?_)
      refine W.eq (g2 := F0 m 30 ls [.float r5]) rfl ?_
      refine lv_fstore_n (lv' := [(2, .float r5), (0, .ref xa), (1, .int i)]) hx hb dX5_exact_30 rfl hl (by decide) rfl (fun ls hl => ?_)
      refine lv_fload_n hx hb dX5_exact_31 rfl (lv_at hl 0 rfl) ?_
      refine lv_fconst0 hx hb dX5_exact_32 ?_
      refine lv_fcmp hx hb dX5_exact_33 ?_
      refine lv_if_ne (tgt := 53) hx hb dX5_exact_34 (by decide) (fun c7 => ?_) (fun c7 => ?_)
      · have hf := if_n c7 hf
        refine lv_fload_n hx hb dX5_exact_53 rfl (lv_at hl 0 rfl) ?_
        obtain ⟨g8, hf⟩ := gd_inv hf
        refine lv_f2d hx hb dX5_exact_54 g8 ?_
        obtain ⟨r9, hc10, hf⟩ := bd_inv hf
        refine xcS (As := [.double (FP.f2d r5)]) (rest := []) (ws' := [(xa, .inr (5, [.ref ta, .ref fa, .ref da, .ref na, .ref ga, .ref xp, .ref xs, .ref xi, .ref xh, .int np, .int un])), (fa, .inr (0, [.int fst, .ref fb, .int fwy, .ref fc, .int fmk, .int fwt])), (fb, .inl (cI, 24, .inl fvl)), (fc, .inl (cI, 84, .inl fpt)), (na, .inr (2, [.ref nla, .ref nua, .ref nn, .int ntr])), (nla, .inr (1, [.int nlst, .int nlla, .int nlbw, .int nlbf, .int nlbd, .ref nlb, .ref nlc])), (nlb, .inl (cF, 6, .inr (.inr (.inl nlsh)))), (nlc, .inl (cF, 6, .inr (.inr (.inl nlsb)))), (nua, .inr (1, [.int nust, .int nula, .int nubw, .int nubf, .int nubd, .ref nub, .ref nuc])), (nub, .inl (cF, 6, .inr (.inr (.inl nush)))), (nuc, .inl (cF, 6, .inr (.inr (.inl nusb)))), (nn, .inl (cI, 3, .inl nnm))]) ⟨hx, hb, hml, hown, hts⟩ (c_X5_doubleBits l D B adK adV cC cF cI cZ cM cS (FP.f2d r5)  r9 hc10) (va_cwS 1 hts gX5_exact_X5_doubleBits rfl rfl rfl (by decide +kernel) ⟨Nat.le_of_ble_eq_true rfl, Nat.le_of_ble_eq_true rfl⟩) hK hP hD hS hB hE [] rfl rfl rfl rfl rfl hl.1 rfl (Nat.le_of_ble_eq_true rfl) dX5_exact_55 ⟨Nat.le_of_ble_eq_true rfl, Nat.le_of_ble_eq_true rfl⟩ (fun H locs hP hD hS => ?_)
        refine W.eq (g2 := F0 m 58 ls [.long r9]) rfl ?_
        have h1 := Option.some.inj hf
        subst h1
        rw [hQ]
        exact W.lret (v := r9) hx hb hr (fun t ht hW => qEnd hP hS ht) hS.2.2 dX5_exact_58
      · have hf := if_p c7 hf
        refine lv_aload_n hx hb dX5_exact_37 rfl (lv_at hl 1 rfl) ?_
        refine lv_iload_n hx hb dX5_exact_38 rfl (lv_at hl 2 rfl) ?_
        obtain ⟨r11, hc12, hf⟩ := bd_inv hf
        refine xcV (As := [.int i]) (rest := []) (ws' := [(xa, .inr (5, [.ref ta, .ref fa, .ref da, .ref na, .ref ga, .ref xp, .ref xs, .ref xi, .ref xh, .int np, .int un])), (fa, .inr (0, [.int fst, .ref fb, .int fwy, .ref fc, .int fmk, .int fwt])), (fb, .inl (cI, 24, .inl fvl)), (fc, .inl (cI, 84, .inl fpt)), (na, .inr (2, [.ref nla, .ref nua, .ref nn, .int ntr])), (nla, .inr (1, [.int nlst, .int nlla, .int nlbw, .int nlbf, .int nlbd, .ref nlb, .ref nlc])), (nlb, .inl (cF, 6, .inr (.inr (.inl nlsh)))), (nlc, .inl (cF, 6, .inr (.inr (.inl nlsb)))), (nua, .inr (1, [.int nust, .int nula, .int nubw, .int nubf, .int nubd, .ref nub, .ref nuc])), (nub, .inl (cF, 6, .inr (.inr (.inl nush)))), (nuc, .inl (cF, 6, .inr (.inr (.inl nusb)))), (nn, .inl (cI, 3, .inl nnm))]) ⟨hx, hb, hml, hown, hts⟩ (c_X5_isMinusZero l D B adK adV cC cF cI cZ cM cS xa ta fa da na ga xp xs xi xh np un fst fb fwy fc fmk fwt fvl fpt nla nua nn ntr nlst nlla nlbw nlbf nlbd nlb nlc nlsh nlsb nust nula nubw nubf nubd nub nuc nush nusb nnm i  r11 hc12) (cwV 1 hts gX5_exact_X5_isMinusZero rfl rfl rfl (by decide +kernel) ⟨Nat.le_of_ble_eq_true rfl, Nat.le_of_ble_eq_true rfl⟩) (va_recv hK hP (ci := 5) (q0 := 0) rfl rfl) hK hP hD hS hB hE [0, 1, 2, 3, 4, 5, 6, 7, 8, 9, 10, 11] rfl rfl rfl rfl rfl hl.1 rfl (Nat.le_of_ble_eq_true rfl) dX5_exact_39 ⟨Nat.le_of_ble_eq_true rfl, Nat.le_of_ble_eq_true rfl⟩ (fun H locs hP hD hS => ?_)
        refine W.eq (g2 := F0 m 42 ls [.int r11]) rfl ?_
        refine lv_if_eq (tgt := 51) hx hb dX5_exact_42 (by decide) (fun c13 => ?_) (fun c13 => ?_)
        · have hf := if_p c13 hf
          refine lv_lconst (v := 0) hx hb dX5_exact_51 (by decide) ?_
          have h1 := Option.some.inj hf
          subst h1
          rw [hQ]
          exact W.lret (v := 0) hx hb hr (fun t ht hW => qEnd hP hS ht) hS.2.2 dX5_exact_52
        · have hf := if_n c13 hf
          refine lv_ldc2 hx hb hown w4 dX5_exact_45 ?_
          refine lv_goto (tgt := 52) hx hb dX5_exact_48 (by decide) ?_
          have h1 := Option.some.inj hf
          subst h1
          rw [hQ]
          exact W.lret (v := (-9223372036854775808)) hx hb hr (fun t ht hW => qEnd hP hS ht) hS.2.2 dX5_exact_52
    · have hf := if_p c4 hf
      refine lv_ldc2 hx hb hown w5 dX5_exact_21 ?_
      have h1 := Option.some.inj hf
      subst h1
      rw [hQ]
      exact W.lret (v := (-4)) hx hb hr (fun t ht hW => qEnd hP hS ht) hS.2.2 dX5_exact_24
  · have hf := if_p c3 hf
    refine lv_ldc2 hx hb hown w6 dX5_exact_7 ?_
    have h1 := Option.some.inj hf
    subst h1
    rw [hQ]
    exact W.lret (v := (-2)) hx hb hr (fun t ht hW => qEnd hP hS ht) hS.2.2 dX5_exact_10
set_option maxRecDepth 100000 in
set_option maxHeartbeats 4000000 in
theorem c_X5_whole (l : Launch) (D : va_G) (B : Nat) (adK adV : Nat → Nat) (cC cF cI cZ cM cS : ClassId) (xa : Nat) (ta : Nat) (fa : Nat) (da : Nat) (na : Nat) (ga : Nat) (xp : Nat) (xs : Nat) (xi : Nat) (xh : Nat) (np : Int32) (un : Int32) (fst : Int32) (fb : Nat) (fwy : Int32) (fc : Nat) (fmk : Int32) (fwt : Int32) (fvl : Nat → Int32) (fpt : Nat → Int32) (nla : Nat) (nua : Nat) (nn : Nat) (ntr : Int32) (nlst : Int32) (nlla : Int32) (nlbw : Int32) (nlbf : Int32) (nlbd : Int32) (nlb : Nat) (nlc : Nat) (nlsh : Nat → UInt32) (nlsb : Nat → UInt32) (nust : Int32) (nula : Int32) (nubw : Int32) (nubf : Int32) (nubd : Int32) (nub : Nat) (nuc : Nat) (nush : Nat → UInt32) (nusb : Nat → UInt32) (nnm : Nat → Int32) (i : Int32) (zz : Int32) (hf : f_X5_whole fst nlsh nush i = some zz) : Ct l yX5_whole wsX5_whole { frames := 1, cells := 0, slots := 0, locals := 23 } D B adK adV (tysX cC cF cI cZ cM cS) [.ref xa, .int i] [(xa, .inr (5, [.ref ta, .ref fa, .ref da, .ref na, .ref ga, .ref xp, .ref xs, .ref xi, .ref xh, .int np, .int un])), (fa, .inr (0, [.int fst, .ref fb, .int fwy, .ref fc, .int fmk, .int fwt])), (fb, .inl (cI, 24, .inl fvl)), (fc, .inl (cI, 84, .inl fpt)), (na, .inr (2, [.ref nla, .ref nua, .ref nn, .int ntr])), (nla, .inr (1, [.int nlst, .int nlla, .int nlbw, .int nlbf, .int nlbd, .ref nlb, .ref nlc])), (nlb, .inl (cF, 6, .inr (.inr (.inl nlsh)))), (nlc, .inl (cF, 6, .inr (.inr (.inl nlsb)))), (nua, .inr (1, [.int nust, .int nula, .int nubw, .int nubf, .int nubd, .ref nub, .ref nuc])), (nub, .inl (cF, 6, .inr (.inr (.inl nush)))), (nuc, .inl (cF, 6, .inr (.inr (.inl nusb)))), (nn, .inl (cI, 3, .inl nnm))] [(xa, .inr (5, [.ref ta, .ref fa, .ref da, .ref na, .ref ga, .ref xp, .ref xs, .ref xi, .ref xh, .int np, .int un])), (fa, .inr (0, [.int fst, .ref fb, .int fwy, .ref fc, .int fmk, .int fwt])), (fb, .inl (cI, 24, .inl fvl)), (fc, .inl (cI, 84, .inl fpt)), (na, .inr (2, [.ref nla, .ref nua, .ref nn, .int ntr])), (nla, .inr (1, [.int nlst, .int nlla, .int nlbw, .int nlbf, .int nlbd, .ref nlb, .ref nlc])), (nlb, .inl (cF, 6, .inr (.inr (.inl nlsh)))), (nlc, .inl (cF, 6, .inr (.inr (.inl nlsb)))), (nua, .inr (1, [.int nust, .int nula, .int nubw, .int nubf, .int nubd, .ref nub, .ref nuc])), (nub, .inl (cF, 6, .inr (.inr (.inl nush)))), (nuc, .inl (cF, 6, .inr (.inr (.inl nusb)))), (nn, .inl (cI, 3, .inl nnm))] (some (.int zz)) := by
  refine Ct.ofW (cc := cX5_whole) (maxL := 3) (ret := (some .int)) (by decide) rfl (Nat.le_of_ble_eq_true rfl) ?_
  intro p e s m args below meth c hx hb hr hml hts hown hlocks hnm hK hE A Q hQ hB H locs ls hP hD hS hl
  have hl : lv_has ls 3 [(0, .ref xa), (1, .int i)] := hl
  have w0 : ∀ w ∈ u_ws RX5 TX5 11, w ∈ wsX5_whole := by decide +kernel
  have w1 := hts (.fieldLink RX5 19 "MotionStates" "told" "LMotionStates$Figure;") (by decide +kernel)
  have w2 : ∀ w ∈ u_ws RX0 TX0 6, w ∈ wsX5_whole := by decide +kernel
  have w3 : (Cond.fieldLinkNest "MotionStates" 110 "MotionStates$Figure" "states" "I" "MotionStates").before args s = true := va_Nw.use rfl (hE.1 ("MotionStates", 110, "MotionStates$Figure", "states", "I", "MotionStates") (by decide +kernel))
  have w4 := hts (.fieldLink RX5 29 "MotionStates" "now" "LMotionStates$Motion;") (by decide +kernel)
  have w5 := hts (.constantFloat RX5 182 (1266679808)) (by decide +kernel)
  unfold f_X5_whole at hf
  refine lv_iload_n hx hb dX5_whole_0 rfl (lv_at hl 1 rfl) ?_
  obtain ⟨r1, hc2, hf⟩ := bd_inv hf
  refine xcS (As := [.int i]) (rest := []) (ws' := [(xa, .inr (5, [.ref ta, .ref fa, .ref da, .ref na, .ref ga, .ref xp, .ref xs, .ref xi, .ref xh, .int np, .int un])), (fa, .inr (0, [.int fst, .ref fb, .int fwy, .ref fc, .int fmk, .int fwt])), (fb, .inl (cI, 24, .inl fvl)), (fc, .inl (cI, 84, .inl fpt)), (na, .inr (2, [.ref nla, .ref nua, .ref nn, .int ntr])), (nla, .inr (1, [.int nlst, .int nlla, .int nlbw, .int nlbf, .int nlbd, .ref nlb, .ref nlc])), (nlb, .inl (cF, 6, .inr (.inr (.inl nlsh)))), (nlc, .inl (cF, 6, .inr (.inr (.inl nlsb)))), (nua, .inr (1, [.int nust, .int nula, .int nubw, .int nubf, .int nubd, .ref nub, .ref nuc])), (nub, .inl (cF, 6, .inr (.inr (.inl nush)))), (nuc, .inl (cF, 6, .inr (.inr (.inl nusb)))), (nn, .inl (cI, 3, .inl nnm))]) ⟨hx, hb, hml, hown, hts⟩ (c_X5_isLayer l D B adK adV cC cF cI cZ cM cS i  r1 hc2) (va_cwS 1 hts gX5_whole_X5_isLayer rfl rfl rfl (by decide +kernel) ⟨Nat.le_of_ble_eq_true rfl, Nat.le_of_ble_eq_true rfl⟩) hK hP hD hS hB hE [] rfl rfl rfl rfl rfl hl.1 rfl (Nat.le_of_ble_eq_true rfl) dX5_whole_1 ⟨Nat.le_of_ble_eq_true rfl, Nat.le_of_ble_eq_true rfl⟩ (fun H locs hP hD hS => ?_)
  refine W.eq (g2 := F0 m 4 ls [.int r1]) rfl ?_
  refine lv_if_ne (tgt := 10) hx hb dX5_whole_4 (by decide) (fun c3 => ?_) (fun c3 => ?_)
  · have hf := if_n c3 hf
    refine lv_aload_n hx hb dX5_whole_10 rfl (lv_at hl 0 rfl) ?_
    refine va_get (D := D) (ci := 5) (v := .ref fa) (C := RX5) (T := TX5) (N := 11) hx hb hts w0 hown hK hP 0 rfl rfl 1 (by decide) w1 (fun _ h9 => h9) rfl dX5_whole_11 ?_
    refine va_getN (D := D) (ci := 0) (v := .int fst) (C := RX0) (T := TX0) (N := 6) hx hb hts w2 hown hK hP 1 rfl rfl 0 (by decide) w3 (fun _ h9 => h9) rfl dX5_whole_14 ?_
    refine lv_if_ne (tgt := 23) hx hb dX5_whole_17 (by decide) (fun c4 => ?_) (fun c4 => ?_)
    · have hf := if_n c4 hf
      refine lv_aload_n hx hb dX5_whole_23 rfl (lv_at hl 0 rfl) ?_
      refine va_get (D := D) (ci := 5) (v := .ref na) (C := RX5) (T := TX5) (N := 11) hx hb hts w0 hown hK hP 0 rfl rfl 3 (by decide) w4 (fun _ h9 => h9) rfl dX5_whole_24 ?_
      refine lv_iload_n hx hb dX5_whole_27 rfl (lv_at hl 1 rfl) ?_
      by_cases c5 : i = 0
      · have hf := if_p c5 hf
        refine W.eq (g2 := F0 m 28 ls [.int 0, .ref na]) (by rw [c5]) ?_
        obtain ⟨_, hc6, hf⟩ := bd_inv hf
        refine xcV (As := [.int 0]) (rest := []) (ws' := [(xa, .inr (5, [.ref ta, .ref fa, .ref da, .ref na, .ref ga, .ref xp, .ref xs, .ref xi, .ref xh, .int np, .int un])), (fa, .inr (0, [.int fst, .ref fb, .int fwy, .ref fc, .int fmk, .int fwt])), (fb, .inl (cI, 24, .inl fvl)), (fc, .inl (cI, 84, .inl fpt)), (na, .inr (2, [.ref nla, .ref nua, .ref nn, .int ntr])), (nla, .inr (1, [.int nlst, .int nlla, .int nlbw, .int nlbf, .int nlbd, .ref nlb, .ref nlc])), (nlb, .inl (cF, 6, .inr (.inr (.inl nlsh)))), (nlc, .inl (cF, 6, .inr (.inr (.inl nlsb)))), (nua, .inr (1, [.int nust, .int nula, .int nubw, .int nubf, .int nubd, .ref nub, .ref nuc])), (nub, .inl (cF, 6, .inr (.inr (.inl nush)))), (nuc, .inl (cF, 6, .inr (.inr (.inl nusb)))), (nn, .inl (cI, 3, .inl nnm))]) ⟨hx, hb, hml, hown, hts⟩ (c_X2_layerAt_0 l D B adK adV cC cF cI cZ cM cS na nla nua nn ntr nnm   hc6) (cwV 1 hts gX5_whole_X2_layerAt rfl rfl rfl (by decide +kernel) ⟨Nat.le_of_ble_eq_true rfl, Nat.le_of_ble_eq_true rfl⟩) (va_recv hK hP (ci := 2) (q0 := 4) rfl rfl) hK hP hD hS hB hE [4, 11] rfl rfl rfl rfl rfl hl.1 rfl (Nat.le_of_ble_eq_true rfl) dX5_whole_28 ⟨Nat.le_of_ble_eq_true rfl, Nat.le_of_ble_eq_true rfl⟩ (fun H locs hP hD hS => ?_)
        refine W.eq (g2 := F0 m 31 ls [.ref nla]) rfl ?_
        refine lv_aload_n hx hb dX5_whole_31 rfl (lv_at hl 0 rfl) ?_
        refine va_get (D := D) (ci := 5) (v := .ref fa) (C := RX5) (T := TX5) (N := 11) hx hb hts w0 hown hK hP 0 rfl rfl 1 (by decide) w1 (fun _ h9 => h9) rfl dX5_whole_32 ?_
        refine va_getN (D := D) (ci := 0) (v := .int fst) (C := RX0) (T := TX0) (N := 6) hx hb hts w2 hown hK hP 1 rfl rfl 0 (by decide) w3 (fun _ h9 => h9) rfl dX5_whole_35 ?_
        obtain ⟨r7, hc8, hf⟩ := bd_inv hf
        refine xcV (As := [.int fst]) (rest := []) (ws' := [(xa, .inr (5, [.ref ta, .ref fa, .ref da, .ref na, .ref ga, .ref xp, .ref xs, .ref xi, .ref xh, .int np, .int un])), (fa, .inr (0, [.int fst, .ref fb, .int fwy, .ref fc, .int fmk, .int fwt])), (fb, .inl (cI, 24, .inl fvl)), (fc, .inl (cI, 84, .inl fpt)), (na, .inr (2, [.ref nla, .ref nua, .ref nn, .int ntr])), (nla, .inr (1, [.int nlst, .int nlla, .int nlbw, .int nlbf, .int nlbd, .ref nlb, .ref nlc])), (nlb, .inl (cF, 6, .inr (.inr (.inl nlsh)))), (nlc, .inl (cF, 6, .inr (.inr (.inl nlsb)))), (nua, .inr (1, [.int nust, .int nula, .int nubw, .int nubf, .int nubd, .ref nub, .ref nuc])), (nub, .inl (cF, 6, .inr (.inr (.inl nush)))), (nuc, .inl (cF, 6, .inr (.inr (.inl nusb)))), (nn, .inl (cI, 3, .inl nnm))]) ⟨hx, hb, hml, hown, hts⟩ (c_X1_sumOfShares l D B adK adV cC cF cI cZ cM cS nla nlst nlla nlbw nlbf nlbd nlb nlc nlsh nlsb fst  r7 hc8) (cwV 1 hts gX5_whole_X1_sumOfShares rfl rfl rfl (by decide +kernel) ⟨Nat.le_of_ble_eq_true rfl, Nat.le_of_ble_eq_true rfl⟩) (va_recv hK hP (ci := 1) (q0 := 5) rfl rfl) hK hP hD hS hB hE [5, 6, 7] rfl rfl rfl rfl rfl hl.1 rfl (Nat.le_of_ble_eq_true rfl) dX5_whole_38 ⟨Nat.le_of_ble_eq_true rfl, Nat.le_of_ble_eq_true rfl⟩ (fun H locs hP hD hS => ?_)
        refine W.eq (g2 := F0 m 41 ls [.float r7]) rfl ?_
        refine lv_fconst1 hx hb dX5_whole_41 ?_
        obtain ⟨g9, hf⟩ := gd_inv hf
        refine lv_fsub hx hb dX5_whole_42 g9 ?_
        refine lv_fstore_n (lv' := [(2, .float (FP.fsub r7 FP.fconst1)), (0, .ref xa), (1, .int i)]) hx hb dX5_whole_43 rfl hl (by decide) rfl (fun ls hl => ?_)
        refine lv_fload_n hx hb dX5_whole_44 rfl (lv_at hl 0 rfl) ?_
        refine lv_ldcf hx hb hown w5 dX5_whole_45 ?_
        obtain ⟨g10, hf⟩ := gd_inv hf
        refine lv_fmul hx hb dX5_whole_47 g10 ?_
        refine lv_f2i hx hb dX5_whole_48 ?_
        refine lv_bipush (v := 100) hx hb dX5_whole_49 (by decide) ?_
        refine lv_iadd hx hb dX5_whole_51 ?_
        have h1 := Option.some.inj hf
        subst h1
        rw [hQ]
        exact W.iret (v := ((FP.f2i (FP.fmul (FP.fsub r7 FP.fconst1) 1266679808)) + 100)) hx hb hr (fun t ht hW => qEnd hP hS ht) hS.2.2 dX5_whole_52
      · have hf := if_n c5 hf
        by_cases c11 : i = 1
        · have hf := if_p c11 hf
          refine W.eq (g2 := F0 m 28 ls [.int 1, .ref na]) (by rw [c11]) ?_
          obtain ⟨_, hc12, hf⟩ := bd_inv hf
          refine xcV (As := [.int 1]) (rest := []) (ws' := [(xa, .inr (5, [.ref ta, .ref fa, .ref da, .ref na, .ref ga, .ref xp, .ref xs, .ref xi, .ref xh, .int np, .int un])), (fa, .inr (0, [.int fst, .ref fb, .int fwy, .ref fc, .int fmk, .int fwt])), (fb, .inl (cI, 24, .inl fvl)), (fc, .inl (cI, 84, .inl fpt)), (na, .inr (2, [.ref nla, .ref nua, .ref nn, .int ntr])), (nla, .inr (1, [.int nlst, .int nlla, .int nlbw, .int nlbf, .int nlbd, .ref nlb, .ref nlc])), (nlb, .inl (cF, 6, .inr (.inr (.inl nlsh)))), (nlc, .inl (cF, 6, .inr (.inr (.inl nlsb)))), (nua, .inr (1, [.int nust, .int nula, .int nubw, .int nubf, .int nubd, .ref nub, .ref nuc])), (nub, .inl (cF, 6, .inr (.inr (.inl nush)))), (nuc, .inl (cF, 6, .inr (.inr (.inl nusb)))), (nn, .inl (cI, 3, .inl nnm))]) ⟨hx, hb, hml, hown, hts⟩ (c_X2_layerAt_1 l D B adK adV cC cF cI cZ cM cS na nla nua nn ntr nnm   hc12) (cwV 1 hts gX5_whole_X2_layerAt rfl rfl rfl (by decide +kernel) ⟨Nat.le_of_ble_eq_true rfl, Nat.le_of_ble_eq_true rfl⟩) (va_recv hK hP (ci := 2) (q0 := 4) rfl rfl) hK hP hD hS hB hE [4, 11] rfl rfl rfl rfl rfl hl.1 rfl (Nat.le_of_ble_eq_true rfl) dX5_whole_28 ⟨Nat.le_of_ble_eq_true rfl, Nat.le_of_ble_eq_true rfl⟩ (fun H locs hP hD hS => ?_)
          refine W.eq (g2 := F0 m 31 ls [.ref nua]) rfl ?_
          refine lv_aload_n hx hb dX5_whole_31 rfl (lv_at hl 0 rfl) ?_
          refine va_get (D := D) (ci := 5) (v := .ref fa) (C := RX5) (T := TX5) (N := 11) hx hb hts w0 hown hK hP 0 rfl rfl 1 (by decide) w1 (fun _ h9 => h9) rfl dX5_whole_32 ?_
          refine va_getN (D := D) (ci := 0) (v := .int fst) (C := RX0) (T := TX0) (N := 6) hx hb hts w2 hown hK hP 1 rfl rfl 0 (by decide) w3 (fun _ h9 => h9) rfl dX5_whole_35 ?_
          obtain ⟨r13, hc14, hf⟩ := bd_inv hf
          refine xcV (As := [.int fst]) (rest := []) (ws' := [(xa, .inr (5, [.ref ta, .ref fa, .ref da, .ref na, .ref ga, .ref xp, .ref xs, .ref xi, .ref xh, .int np, .int un])), (fa, .inr (0, [.int fst, .ref fb, .int fwy, .ref fc, .int fmk, .int fwt])), (fb, .inl (cI, 24, .inl fvl)), (fc, .inl (cI, 84, .inl fpt)), (na, .inr (2, [.ref nla, .ref nua, .ref nn, .int ntr])), (nla, .inr (1, [.int nlst, .int nlla, .int nlbw, .int nlbf, .int nlbd, .ref nlb, .ref nlc])), (nlb, .inl (cF, 6, .inr (.inr (.inl nlsh)))), (nlc, .inl (cF, 6, .inr (.inr (.inl nlsb)))), (nua, .inr (1, [.int nust, .int nula, .int nubw, .int nubf, .int nubd, .ref nub, .ref nuc])), (nub, .inl (cF, 6, .inr (.inr (.inl nush)))), (nuc, .inl (cF, 6, .inr (.inr (.inl nusb)))), (nn, .inl (cI, 3, .inl nnm))]) ⟨hx, hb, hml, hown, hts⟩ (c_X1_sumOfShares l D B adK adV cC cF cI cZ cM cS nua nust nula nubw nubf nubd nub nuc nush nusb fst  r13 hc14) (cwV 1 hts gX5_whole_X1_sumOfShares rfl rfl rfl (by decide +kernel) ⟨Nat.le_of_ble_eq_true rfl, Nat.le_of_ble_eq_true rfl⟩) (va_recv hK hP (ci := 1) (q0 := 8) rfl rfl) hK hP hD hS hB hE [8, 9, 10] rfl rfl rfl rfl rfl hl.1 rfl (Nat.le_of_ble_eq_true rfl) dX5_whole_38 ⟨Nat.le_of_ble_eq_true rfl, Nat.le_of_ble_eq_true rfl⟩ (fun H locs hP hD hS => ?_)
          refine W.eq (g2 := F0 m 41 ls [.float r13]) rfl ?_
          refine lv_fconst1 hx hb dX5_whole_41 ?_
          obtain ⟨g15, hf⟩ := gd_inv hf
          refine lv_fsub hx hb dX5_whole_42 g15 ?_
          refine lv_fstore_n (lv' := [(2, .float (FP.fsub r13 FP.fconst1)), (0, .ref xa), (1, .int i)]) hx hb dX5_whole_43 rfl hl (by decide) rfl (fun ls hl => ?_)
          refine lv_fload_n hx hb dX5_whole_44 rfl (lv_at hl 0 rfl) ?_
          refine lv_ldcf hx hb hown w5 dX5_whole_45 ?_
          obtain ⟨g16, hf⟩ := gd_inv hf
          refine lv_fmul hx hb dX5_whole_47 g16 ?_
          refine lv_f2i hx hb dX5_whole_48 ?_
          refine lv_bipush (v := 100) hx hb dX5_whole_49 (by decide) ?_
          refine lv_iadd hx hb dX5_whole_51 ?_
          have h1 := Option.some.inj hf
          subst h1
          rw [hQ]
          exact W.iret (v := ((FP.f2i (FP.fmul (FP.fsub r13 FP.fconst1) 1266679808)) + 100)) hx hb hr (fun t ht hW => qEnd hP hS ht) hS.2.2 dX5_whole_52
        · have hf := if_n c11 hf
          cases hf
    · have hf := if_p c4 hf
      refine lv_bipush (v := (-4)) hx hb dX5_whole_20 (by decide) ?_
      have h1 := Option.some.inj hf
      subst h1
      rw [hQ]
      exact W.iret (v := (-4)) hx hb hr (fun t ht hW => qEnd hP hS ht) hS.2.2 dX5_whole_22
  · have hf := if_p c3 hf
    refine lv_bipush (v := (-2)) hx hb dX5_whole_7 (by decide) ?_
    have h1 := Option.some.inj hf
    subst h1
    rw [hQ]
    exact W.iret (v := (-2)) hx hb hr (fun t ht hW => qEnd hP hS ht) hS.2.2 dX5_whole_9
set_option maxRecDepth 100000 in
set_option maxHeartbeats 4000000 in
theorem c_X5_reach (l : Launch) (D : va_G) (B : Nat) (adK adV : Nat → Nat) (cC cF cI cZ cM cS : ClassId) (xa : Nat) (ta : Nat) (fa : Nat) (da : Nat) (na : Nat) (ga : Nat) (xp : Nat) (xs : Nat) (xi : Nat) (xh : Nat) (np : Int32) (un : Int32) (fst : Int32) (fb : Nat) (fwy : Int32) (fc : Nat) (fmk : Int32) (fwt : Int32) (fvl : Nat → Int32) (fpt : Nat → Int32) (i : Int32) (zz : Int32) (hf : f_X5_reach fst fwy fpt i = some zz) : Ct l yX5_reach wsX5_reach { frames := 2, cells := 0, slots := 0, locals := 46 } D B adK adV (tysX cC cF cI cZ cM cS) [.ref xa, .int i] [(xa, .inr (5, [.ref ta, .ref fa, .ref da, .ref na, .ref ga, .ref xp, .ref xs, .ref xi, .ref xh, .int np, .int un])), (fa, .inr (0, [.int fst, .ref fb, .int fwy, .ref fc, .int fmk, .int fwt])), (fb, .inl (cI, 24, .inl fvl)), (fc, .inl (cI, 84, .inl fpt))] [(xa, .inr (5, [.ref ta, .ref fa, .ref da, .ref na, .ref ga, .ref xp, .ref xs, .ref xi, .ref xh, .int np, .int un])), (fa, .inr (0, [.int fst, .ref fb, .int fwy, .ref fc, .int fmk, .int fwt])), (fb, .inl (cI, 24, .inl fvl)), (fc, .inl (cI, 84, .inl fpt))] (some (.int zz)) := by
  refine Ct.ofW (cc := cX5_reach) (maxL := 4) (ret := (some .int)) (by decide) rfl (Nat.le_of_ble_eq_true rfl) ?_
  intro p e s m args below meth c hx hb hr hml hts hown hlocks hnm hK hE A Q hQ hB H locs ls hP hD hS hl
  have hl : lv_has ls 4 [(0, .ref xa), (1, .int i)] := hl
  have w0 : ∀ w ∈ u_ws RX5 TX5 11, w ∈ wsX5_reach := by decide +kernel
  have w1 := hts (.fieldLink RX5 19 "MotionStates" "told" "LMotionStates$Figure;") (by decide +kernel)
  have L17 : ∀ (n : Nat) (x3_17 : Int32) (x2_17 : Int32) (oo : Int32 × Int32), f_X5_reach_L17 fwy fpt n x3_17 x2_17 = some oo → ∀ (H : Heap) (locs : List Loc) (ls : Array Slot), va_P D vwCl [(xa, .inr (5, [.ref ta, .ref fa, .ref da, .ref na, .ref ga, .ref xp, .ref xs, .ref xi, .ref xh, .int np, .int un])), (fa, .inr (0, [.int fst, .ref fb, .int fwy, .ref fc, .int fmk, .int fwt])), (fb, .inl (cI, 24, .inl fvl)), (fc, .inl (cI, 84, .inl fpt))] H → va_D A [(xa, .inr (5, [.ref ta, .ref fa, .ref da, .ref na, .ref ga, .ref xp, .ref xs, .ref xi, .ref xh, .int np, .int un])), (fa, .inr (0, [.int fst, .ref fb, .int fwy, .ref fc, .int fmk, .int fwt])), (fb, .inl (cI, 24, .inl fvl)), (fc, .inl (cI, 84, .inl fpt))] → va_S A s.heap H locs → lv_has ls 4 [(3, .int x3_17), (2, .int x2_17), (0, .ref xa), (1, .int i)] → (∀ (H : Heap) (locs : List Loc) (ls : Array Slot), va_P D vwCl [(xa, .inr (5, [.ref ta, .ref fa, .ref da, .ref na, .ref ga, .ref xp, .ref xs, .ref xi, .ref xh, .int np, .int un])), (fa, .inr (0, [.int fst, .ref fb, .int fwy, .ref fc, .int fmk, .int fwt])), (fb, .inl (cI, 24, .inl fvl)), (fc, .inl (cI, 84, .inl fpt))] H → va_D A [(xa, .inr (5, [.ref ta, .ref fa, .ref da, .ref na, .ref ga, .ref xp, .ref xs, .ref xi, .ref xh, .int np, .int un])), (fa, .inr (0, [.int fst, .ref fb, .int fwy, .ref fc, .int fmk, .int fwt])), (fb, .inl (cI, 24, .inl fvl)), (fc, .inl (cI, 84, .inl fpt))] → va_S A s.heap H locs → lv_has ls 4 [(3, .int oo.1), (2, .int oo.2), (0, .ref xa), (1, .int i)] → W p l e { frames := 2, cells := 0, slots := 0, locals := 46 } s m args below meth c H locs 0 0 Q (F0 m 40 ls [])) → W p l e { frames := 2, cells := 0, slots := 0, locals := 46 } s m args below meth c H locs 0 0 Q (F0 m 17 ls []) := by
    intro n
    induction n with
    | zero => intro x3_17 x2_17 oo hf; exact absurd hf (by simp [f_X5_reach_L17])
    | succ n ih =>
      intro x3_17 x2_17 oo hf H locs ls hP hD hS hl kk
      rw [f_X5_reach_L17] at hf
      refine lv_iload_n hx hb dX5_reach_17 rfl (lv_at hl 0 rfl) ?_
      refine lv_bipush (v := 6) hx hb dX5_reach_18 (by decide) ?_
      refine lv_icmp_ge (tgt := 40) hx hb dX5_reach_20 (by decide) (fun c4 => ?_) (fun c4 => ?_)
      · have hf := if_p c4 hf
        have h1 := Option.some.inj hf
        subst h1
        exact kk H locs ls hP hD hS (lv_sub hl [0, 1, 2, 3] rfl)
      · have hf := if_n c4 hf
        refine lv_iload_n hx hb dX5_reach_23 rfl (lv_at hl 1 rfl) ?_
        refine lv_aload_n hx hb dX5_reach_24 rfl (lv_at hl 2 rfl) ?_
        refine va_get (D := D) (ci := 5) (v := .ref fa) (C := RX5) (T := TX5) (N := 11) hx hb hts w0 hown hK hP 0 rfl rfl 1 (by decide) w1 (fun _ h9 => h9) rfl dX5_reach_25 ?_
        refine lv_iload_n hx hb dX5_reach_28 rfl (lv_at hl 1 rfl) ?_
        obtain ⟨r5, hc6, hf⟩ := bd_inv hf
        refine xcV (As := [.int x2_17]) (rest := [.int x2_17]) (ws' := [(xa, .inr (5, [.ref ta, .ref fa, .ref da, .ref na, .ref ga, .ref xp, .ref xs, .ref xi, .ref xh, .int np, .int un])), (fa, .inr (0, [.int fst, .ref fb, .int fwy, .ref fc, .int fmk, .int fwt])), (fb, .inl (cI, 24, .inl fvl)), (fc, .inl (cI, 84, .inl fpt))]) ⟨hx, hb, hml, hown, hts⟩ (c_X0_stepsFrom l D B adK adV cC cF cI cZ cM cS fa fst fb fwy fc fmk fwt fvl fpt x2_17  r5 hc6) (cwV 1 hts gX5_reach_X0_stepsFrom rfl rfl rfl (by decide +kernel) ⟨Nat.le_of_ble_eq_true rfl, Nat.le_of_ble_eq_true rfl⟩) (va_recv hK hP (ci := 0) (q0 := 1) rfl rfl) hK hP hD hS hB hE [1, 2, 3] rfl rfl rfl rfl rfl hl.1 rfl (Nat.le_of_ble_eq_true rfl) dX5_reach_29 ⟨Nat.le_of_ble_eq_true rfl, Nat.le_of_ble_eq_true rfl⟩ (fun H locs hP hD hS => ?_)
        refine W.eq (g2 := F0 m 32 ls [.int r5, .int x2_17]) rfl ?_
        refine lv_ior hx hb dX5_reach_32 ?_
        refine lv_istore_n (lv' := [(2, .int (x2_17 ||| r5)), (3, .int x3_17), (0, .ref xa), (1, .int i)]) hx hb dX5_reach_33 rfl hl (by decide) rfl (fun ls hl => ?_)
        refine lv_iinc (v := x3_17 + 1) (lv' := [(3, .int (x3_17 + 1)), (2, .int (x2_17 ||| r5)), (0, .ref xa), (1, .int i)]) hx hb dX5_reach_34 hl (k := 1) rfl rfl (by decide) rfl (fun ls hl => ?_)
        refine lv_goto (tgt := 17) hx hb dX5_reach_37 (by decide) ?_
        exact ih (x3_17 + 1) (x2_17 ||| r5) oo hf H locs ls hP hD hS (lv_sub hl [0, 1, 2, 3] rfl) kk
  unfold f_X5_reach at hf
  refine lv_aload_n hx hb dX5_reach_0 rfl (lv_at hl 0 rfl) ?_
  refine lv_iload_n hx hb dX5_reach_1 rfl (lv_at hl 1 rfl) ?_
  obtain ⟨r1, hc2, hf⟩ := bd_inv hf
  refine xcV (As := [.int i]) (rest := []) (ws' := [(xa, .inr (5, [.ref ta, .ref fa, .ref da, .ref na, .ref ga, .ref xp, .ref xs, .ref xi, .ref xh, .int np, .int un])), (fa, .inr (0, [.int fst, .ref fb, .int fwy, .ref fc, .int fmk, .int fwt])), (fb, .inl (cI, 24, .inl fvl)), (fc, .inl (cI, 84, .inl fpt))]) ⟨hx, hb, hml, hown, hts⟩ (c_X5_isState l D B adK adV cC cF cI cZ cM cS xa ta fa da na ga xp xs xi xh np un fst fb fwy fc fmk fwt fvl fpt i  r1 hc2) (cwV 1 hts gX5_reach_X5_isState rfl rfl rfl (by decide +kernel) ⟨Nat.le_of_ble_eq_true rfl, Nat.le_of_ble_eq_true rfl⟩) (va_recv hK hP (ci := 5) (q0 := 0) rfl rfl) hK hP hD hS hB hE [0, 1, 2, 3] rfl rfl rfl rfl rfl hl.1 rfl (Nat.le_of_ble_eq_true rfl) dX5_reach_2 ⟨Nat.le_of_ble_eq_true rfl, Nat.le_of_ble_eq_true rfl⟩ (fun H locs hP hD hS => ?_)
  refine W.eq (g2 := F0 m 5 ls [.int r1]) rfl ?_
  refine lv_if_ne (tgt := 11) hx hb dX5_reach_5 (by decide) (fun c3 => ?_) (fun c3 => ?_)
  · have hf := if_n c3 hf
    refine lv_iconst (v := 1) hx hb dX5_reach_11 (by decide) ?_
    refine lv_iload_n hx hb dX5_reach_12 rfl (lv_at hl 1 rfl) ?_
    refine lv_ishl hx hb dX5_reach_13 ?_
    refine lv_istore_n (lv' := [(2, .int ((1 : Int32) <<< (i &&& 31))), (0, .ref xa), (1, .int i)]) hx hb dX5_reach_14 rfl hl (by decide) rfl (fun ls hl => ?_)
    refine lv_iconst (v := 0) hx hb dX5_reach_15 (by decide) ?_
    refine lv_istore_n (lv' := [(3, .int 0), (2, .int ((1 : Int32) <<< (i &&& 31))), (0, .ref xa), (1, .int i)]) hx hb dX5_reach_16 rfl hl (by decide) rfl (fun ls hl => ?_)
    obtain ⟨⟨q7, q8⟩, hq9, hf⟩ := bd_inv hf
    refine L17 1000 0 ((1 : Int32) <<< (i &&& 31)) (q7, q8) hq9 H locs ls hP hD hS (lv_sub hl [0, 1, 2, 3] rfl) (fun H locs ls hP hD hS hl => ?_)
    have hP : va_P D vwCl [(xa, .inr (5, [.ref ta, .ref fa, .ref da, .ref na, .ref ga, .ref xp, .ref xs, .ref xi, .ref xh, .int np, .int un])), (fa, .inr (0, [.int fst, .ref fb, .int fwy, .ref fc, .int fmk, .int fwt])), (fb, .inl (cI, 24, .inl fvl)), (fc, .inl (cI, 84, .inl fpt))] H := hP
    have hD : va_D A [(xa, .inr (5, [.ref ta, .ref fa, .ref da, .ref na, .ref ga, .ref xp, .ref xs, .ref xi, .ref xh, .int np, .int un])), (fa, .inr (0, [.int fst, .ref fb, .int fwy, .ref fc, .int fmk, .int fwt])), (fb, .inl (cI, 24, .inl fvl)), (fc, .inl (cI, 84, .inl fpt))] := hD
    have hl : lv_has ls 4 [(3, .int q7), (2, .int q8), (0, .ref xa), (1, .int i)] := hl
    refine lv_iload_n hx hb dX5_reach_40 rfl (lv_at hl 1 rfl) ?_
    have h1 := Option.some.inj hf
    subst h1
    rw [hQ]
    exact W.iret (v := q8) hx hb hr (fun t ht hW => qEnd hP hS ht) hS.2.2 dX5_reach_41
  · have hf := if_p c3 hf
    refine lv_bipush (v := (-2)) hx hb dX5_reach_8 (by decide) ?_
    have h1 := Option.some.inj hf
    subst h1
    rw [hQ]
    exact W.iret (v := (-2)) hx hb hr (fun t ht hW => qEnd hP hS ht) hS.2.2 dX5_reach_10
set_option maxRecDepth 100000 in
set_option maxHeartbeats 4000000 in
theorem c_X5_dead (l : Launch) (D : va_G) (B : Nat) (adK adV : Nat → Nat) (cC cF cI cZ cM cS : ClassId) (xa : Nat) (ta : Nat) (fa : Nat) (da : Nat) (na : Nat) (ga : Nat) (xp : Nat) (xs : Nat) (xi : Nat) (xh : Nat) (np : Int32) (un : Int32) (fst : Int32) (fb : Nat) (fwy : Int32) (fc : Nat) (fmk : Int32) (fwt : Int32) (fvl : Nat → Int32) (fpt : Nat → Int32) (zz : Int32) (hf : f_X5_dead fst fwy fpt = some zz) : Ct l yX5_dead wsX5_dead { frames := 2, cells := 0, slots := 0, locals := 46 } D B adK adV (tysX cC cF cI cZ cM cS) [.ref xa] [(xa, .inr (5, [.ref ta, .ref fa, .ref da, .ref na, .ref ga, .ref xp, .ref xs, .ref xi, .ref xh, .int np, .int un])), (fa, .inr (0, [.int fst, .ref fb, .int fwy, .ref fc, .int fmk, .int fwt])), (fb, .inl (cI, 24, .inl fvl)), (fc, .inl (cI, 84, .inl fpt))] [(xa, .inr (5, [.ref ta, .ref fa, .ref da, .ref na, .ref ga, .ref xp, .ref xs, .ref xi, .ref xh, .int np, .int un])), (fa, .inr (0, [.int fst, .ref fb, .int fwy, .ref fc, .int fmk, .int fwt])), (fb, .inl (cI, 24, .inl fvl)), (fc, .inl (cI, 84, .inl fpt))] (some (.int zz)) := by
  refine Ct.ofW (cc := cX5_dead) (maxL := 4) (ret := (some .int)) (by decide) rfl (Nat.le_of_ble_eq_true rfl) ?_
  intro p e s m args below meth c hx hb hr hml hts hown hlocks hnm hK hE A Q hQ hB H locs ls hP hD hS hl
  have hl : lv_has ls 4 [(0, .ref xa)] := hl
  have w0 : ∀ w ∈ u_ws RX5 TX5 11, w ∈ wsX5_dead := by decide +kernel
  have w1 := hts (.fieldLink RX5 19 "MotionStates" "told" "LMotionStates$Figure;") (by decide +kernel)
  have w2 : ∀ w ∈ u_ws RX0 TX0 6, w ∈ wsX5_dead := by decide +kernel
  have w3 : (Cond.fieldLinkNest "MotionStates" 110 "MotionStates$Figure" "states" "I" "MotionStates").before args s = true := va_Nw.use rfl (hE.1 ("MotionStates", 110, "MotionStates$Figure", "states", "I", "MotionStates") (by decide +kernel))
  have L17 : ∀ (n : Nat) (x2_17 : Int32) (x1_17 : Int32) (oo : Int32 × Int32), f_X5_dead_L17 fst fwy fpt n x2_17 x1_17 = some oo → ∀ (H : Heap) (locs : List Loc) (ls : Array Slot), va_P D vwCl [(xa, .inr (5, [.ref ta, .ref fa, .ref da, .ref na, .ref ga, .ref xp, .ref xs, .ref xi, .ref xh, .int np, .int un])), (fa, .inr (0, [.int fst, .ref fb, .int fwy, .ref fc, .int fmk, .int fwt])), (fb, .inl (cI, 24, .inl fvl)), (fc, .inl (cI, 84, .inl fpt))] H → va_D A [(xa, .inr (5, [.ref ta, .ref fa, .ref da, .ref na, .ref ga, .ref xp, .ref xs, .ref xi, .ref xh, .int np, .int un])), (fa, .inr (0, [.int fst, .ref fb, .int fwy, .ref fc, .int fmk, .int fwt])), (fb, .inl (cI, 24, .inl fvl)), (fc, .inl (cI, 84, .inl fpt))] → va_S A s.heap H locs → lv_has ls 4 [(2, .int x2_17), (1, .int x1_17), (0, .ref xa)] → (∀ (H : Heap) (locs : List Loc) (ls : Array Slot), va_P D vwCl [(xa, .inr (5, [.ref ta, .ref fa, .ref da, .ref na, .ref ga, .ref xp, .ref xs, .ref xi, .ref xh, .int np, .int un])), (fa, .inr (0, [.int fst, .ref fb, .int fwy, .ref fc, .int fmk, .int fwt])), (fb, .inl (cI, 24, .inl fvl)), (fc, .inl (cI, 84, .inl fpt))] H → va_D A [(xa, .inr (5, [.ref ta, .ref fa, .ref da, .ref na, .ref ga, .ref xp, .ref xs, .ref xi, .ref xh, .int np, .int un])), (fa, .inr (0, [.int fst, .ref fb, .int fwy, .ref fc, .int fmk, .int fwt])), (fb, .inl (cI, 24, .inl fvl)), (fc, .inl (cI, 84, .inl fpt))] → va_S A s.heap H locs → lv_has ls 4 [(2, .int oo.1), (1, .int oo.2), (0, .ref xa)] → W p l e { frames := 2, cells := 0, slots := 0, locals := 46 } s m args below meth c H locs 0 0 Q (F0 m 57 ls [])) → W p l e { frames := 2, cells := 0, slots := 0, locals := 46 } s m args below meth c H locs 0 0 Q (F0 m 17 ls []) := by
    intro n
    induction n with
    | zero => intro x2_17 x1_17 oo hf; exact absurd hf (by simp [f_X5_dead_L17])
    | succ n ih =>
      intro x2_17 x1_17 oo hf H locs ls hP hD hS hl kk
      rw [f_X5_dead_L17] at hf
      refine lv_iload_n hx hb dX5_dead_17 rfl (lv_at hl 0 rfl) ?_
      refine lv_aload_n hx hb dX5_dead_18 rfl (lv_at hl 2 rfl) ?_
      refine va_get (D := D) (ci := 5) (v := .ref fa) (C := RX5) (T := TX5) (N := 11) hx hb hts w0 hown hK hP 0 rfl rfl 1 (by decide) w1 (fun _ h9 => h9) rfl dX5_dead_19 ?_
      refine va_getN (D := D) (ci := 0) (v := .int fst) (C := RX0) (T := TX0) (N := 6) hx hb hts w2 hown hK hP 1 rfl rfl 0 (by decide) w3 (fun _ h9 => h9) rfl dX5_dead_22 ?_
      refine lv_icmp_ge (tgt := 57) hx hb dX5_dead_25 (by decide) (fun c2 => ?_) (fun c2 => ?_)
      · have hf := if_p c2 hf
        have h1 := Option.some.inj hf
        subst h1
        exact kk H locs ls hP hD hS (lv_sub hl [0, 1, 2] rfl)
      · have hf := if_n c2 hf
        refine lv_iconst (v := 1) hx hb dX5_dead_28 (by decide) ?_
        refine lv_iload_n hx hb dX5_dead_29 rfl (lv_at hl 0 rfl) ?_
        refine lv_ishl hx hb dX5_dead_30 ?_
        refine lv_istore_n (lv' := [(3, .int ((1 : Int32) <<< (x2_17 &&& 31))), (2, .int x2_17), (1, .int x1_17), (0, .ref xa)]) hx hb dX5_dead_31 rfl hl (by decide) rfl (fun ls hl => ?_)
        refine lv_aload_n hx hb dX5_dead_32 rfl (lv_at hl 3 rfl) ?_
        refine va_get (D := D) (ci := 5) (v := .ref fa) (C := RX5) (T := TX5) (N := 11) hx hb hts w0 hown hK hP 0 rfl rfl 1 (by decide) w1 (fun _ h9 => h9) rfl dX5_dead_33 ?_
        refine lv_iload_n hx hb dX5_dead_36 rfl (lv_at hl 0 rfl) ?_
        obtain ⟨r3, hc4, hf⟩ := bd_inv hf
        refine xcV (As := [.int ((1 : Int32) <<< (x2_17 &&& 31))]) (rest := []) (ws' := [(xa, .inr (5, [.ref ta, .ref fa, .ref da, .ref na, .ref ga, .ref xp, .ref xs, .ref xi, .ref xh, .int np, .int un])), (fa, .inr (0, [.int fst, .ref fb, .int fwy, .ref fc, .int fmk, .int fwt])), (fb, .inl (cI, 24, .inl fvl)), (fc, .inl (cI, 84, .inl fpt))]) ⟨hx, hb, hml, hown, hts⟩ (c_X0_stepsFrom l D B adK adV cC cF cI cZ cM cS fa fst fb fwy fc fmk fwt fvl fpt ((1 : Int32) <<< (x2_17 &&& 31))  r3 hc4) (cwV 1 hts gX5_dead_X0_stepsFrom rfl rfl rfl (by decide +kernel) ⟨Nat.le_of_ble_eq_true rfl, Nat.le_of_ble_eq_true rfl⟩) (va_recv hK hP (ci := 0) (q0 := 1) rfl rfl) hK hP hD hS hB hE [1, 2, 3] rfl rfl rfl rfl rfl hl.1 rfl (Nat.le_of_ble_eq_true rfl) dX5_dead_37 ⟨Nat.le_of_ble_eq_true rfl, Nat.le_of_ble_eq_true rfl⟩ (fun H locs hP hD hS => ?_)
        refine W.eq (g2 := F0 m 40 ls [.int r3]) rfl ?_
        refine lv_iload_n hx hb dX5_dead_40 rfl (lv_at hl 0 rfl) ?_
        refine lv_iconst (v := (-1)) hx hb dX5_dead_41 (by decide) ?_
        refine lv_ixor hx hb dX5_dead_42 ?_
        refine lv_iand hx hb dX5_dead_43 ?_
        refine lv_if_ne (tgt := 51) hx hb dX5_dead_44 (by decide) (fun c5 => ?_) (fun c5 => ?_)
        · have hf := if_n c5 hf
          refine lv_iinc (v := x2_17 + 1) (lv' := [(2, .int (x2_17 + 1)), (3, .int ((1 : Int32) <<< (x2_17 &&& 31))), (1, .int x1_17), (0, .ref xa)]) hx hb dX5_dead_51 hl (k := 1) rfl rfl (by decide) rfl (fun ls hl => ?_)
          refine lv_goto (tgt := 17) hx hb dX5_dead_54 (by decide) ?_
          exact ih (x2_17 + 1) x1_17 oo hf H locs ls hP hD hS (lv_sub hl [0, 2, 3] rfl) kk
        · have hf := if_p c5 hf
          refine lv_iload_n hx hb dX5_dead_47 rfl (lv_at hl 2 rfl) ?_
          refine lv_iload_n hx hb dX5_dead_48 rfl (lv_at hl 0 rfl) ?_
          refine lv_ior hx hb dX5_dead_49 ?_
          refine lv_istore_n (lv' := [(1, .int (x1_17 ||| ((1 : Int32) <<< (x2_17 &&& 31)))), (3, .int ((1 : Int32) <<< (x2_17 &&& 31))), (2, .int x2_17), (0, .ref xa)]) hx hb dX5_dead_50 rfl hl (by decide) rfl (fun ls hl => ?_)
          refine lv_iinc (v := x2_17 + 1) (lv' := [(2, .int (x2_17 + 1)), (1, .int (x1_17 ||| ((1 : Int32) <<< (x2_17 &&& 31)))), (3, .int ((1 : Int32) <<< (x2_17 &&& 31))), (0, .ref xa)]) hx hb dX5_dead_51 hl (k := 2) rfl rfl (by decide) rfl (fun ls hl => ?_)
          refine lv_goto (tgt := 17) hx hb dX5_dead_54 (by decide) ?_
          exact ih (x2_17 + 1) (x1_17 ||| ((1 : Int32) <<< (x2_17 &&& 31))) oo hf H locs ls hP hD hS (lv_sub hl [0, 1, 3] rfl) kk
  unfold f_X5_dead at hf
  refine lv_aload_n hx hb dX5_dead_0 rfl (lv_at hl 0 rfl) ?_
  refine va_get (D := D) (ci := 5) (v := .ref fa) (C := RX5) (T := TX5) (N := 11) hx hb hts w0 hown hK hP 0 rfl rfl 1 (by decide) w1 (fun _ h9 => h9) rfl dX5_dead_1 ?_
  refine va_getN (D := D) (ci := 0) (v := .int fst) (C := RX0) (T := TX0) (N := 6) hx hb hts w2 hown hK hP 1 rfl rfl 0 (by decide) w3 (fun _ h9 => h9) rfl dX5_dead_4 ?_
  refine lv_if_ne (tgt := 13) hx hb dX5_dead_7 (by decide) (fun c1 => ?_) (fun c1 => ?_)
  · have hf := if_n c1 hf
    refine lv_iconst (v := 0) hx hb dX5_dead_13 (by decide) ?_
    refine lv_istore_n (lv' := [(1, .int 0), (0, .ref xa)]) hx hb dX5_dead_14 rfl hl (by decide) rfl (fun ls hl => ?_)
    refine lv_iconst (v := 0) hx hb dX5_dead_15 (by decide) ?_
    refine lv_istore_n (lv' := [(2, .int 0), (1, .int 0), (0, .ref xa)]) hx hb dX5_dead_16 rfl hl (by decide) rfl (fun ls hl => ?_)
    obtain ⟨⟨q6, q7⟩, hq8, hf⟩ := bd_inv hf
    refine L17 1000 0 0 (q6, q7) hq8 H locs ls hP hD hS (lv_sub hl [0, 1, 2] rfl) (fun H locs ls hP hD hS hl => ?_)
    have hP : va_P D vwCl [(xa, .inr (5, [.ref ta, .ref fa, .ref da, .ref na, .ref ga, .ref xp, .ref xs, .ref xi, .ref xh, .int np, .int un])), (fa, .inr (0, [.int fst, .ref fb, .int fwy, .ref fc, .int fmk, .int fwt])), (fb, .inl (cI, 24, .inl fvl)), (fc, .inl (cI, 84, .inl fpt))] H := hP
    have hD : va_D A [(xa, .inr (5, [.ref ta, .ref fa, .ref da, .ref na, .ref ga, .ref xp, .ref xs, .ref xi, .ref xh, .int np, .int un])), (fa, .inr (0, [.int fst, .ref fb, .int fwy, .ref fc, .int fmk, .int fwt])), (fb, .inl (cI, 24, .inl fvl)), (fc, .inl (cI, 84, .inl fpt))] := hD
    have hl : lv_has ls 4 [(2, .int q6), (1, .int q7), (0, .ref xa)] := hl
    refine lv_iload_n hx hb dX5_dead_57 rfl (lv_at hl 1 rfl) ?_
    have h1 := Option.some.inj hf
    subst h1
    rw [hQ]
    exact W.iret (v := q7) hx hb hr (fun t ht hW => qEnd hP hS ht) hS.2.2 dX5_dead_58
  · have hf := if_p c1 hf
    refine lv_bipush (v := (-4)) hx hb dX5_dead_10 (by decide) ?_
    have h1 := Option.some.inj hf
    subst h1
    rw [hQ]
    exact W.iret (v := (-4)) hx hb hr (fun t ht hW => qEnd hP hS ht) hS.2.2 dX5_dead_12
set_option maxRecDepth 100000 in
set_option maxHeartbeats 4000000 in
theorem c_X5_until (l : Launch) (D : va_G) (B : Nat) (adK adV : Nat → Nat) (cC cF cI cZ cM cS : ClassId) (xa : Nat) (ta : Nat) (fa : Nat) (da : Nat) (na : Nat) (ga : Nat) (xp : Nat) (xs : Nat) (xi : Nat) (xh : Nat) (np : Int32) (un : Int32) (fst : Int32) (fb : Nat) (fwy : Int32) (fc : Nat) (fmk : Int32) (fwt : Int32) (fvl : Nat → Int32) (fpt : Nat → Int32) (nla : Nat) (nua : Nat) (nn : Nat) (ntr : Int32) (nlst : Int32) (nlla : Int32) (nlbw : Int32) (nlbf : Int32) (nlbd : Int32) (nlb : Nat) (nlc : Nat) (nlsh : Nat → UInt32) (nlsb : Nat → UInt32) (nust : Int32) (nula : Int32) (nubw : Int32) (nubf : Int32) (nubd : Int32) (nub : Nat) (nuc : Nat) (nush : Nat → UInt32) (nusb : Nat → UInt32) (nnm : Nat → Int32) (gla : Nat) (gua : Nat) (gn : Nat) (gtr : Int32) (glst : Int32) (glla : Int32) (glbw : Int32) (glbf : Int32) (glbd : Int32) (glb : Nat) (glc : Nat) (glsh : Nat → UInt32) (glsb : Nat → UInt32) (gust : Int32) (gula : Int32) (gubw : Int32) (gubf : Int32) (gubd : Int32) (gub : Nat) (guc : Nat) (gush : Nat → UInt32) (gusb : Nat → UInt32) (gnm : Nat → Int32) (i : Int32) (k : Int32) (zz : Int32 × (Nat → UInt32) × (Nat → UInt32) × (Nat → UInt32) × (Nat → UInt32) × (Nat → Int32) × Int32 × Int32 × Int32 × Int32 × Int32 × Int32 × Int32 × Int32 × Int32 × Int32 × Int32) (hf : f_X5_until fst fwy fpt ntr nlst nlla nlbw nlbf nlbd nlsh nlsb nust nula nubw nubf nubd nush nusb nnm gtr glst glla glbw glbf glbd glsh glsb gust gula gubw gubf gubd gush gusb gnm i k = some zz) : Ct l yX5_until wsX5_until { frames := 6, cells := 0, slots := 0, locals := 157 } D B adK adV (tysX cC cF cI cZ cM cS) [.ref xa, .int i, .int k] [(xa, .inr (5, [.ref ta, .ref fa, .ref da, .ref na, .ref ga, .ref xp, .ref xs, .ref xi, .ref xh, .int np, .int un])), (fa, .inr (0, [.int fst, .ref fb, .int fwy, .ref fc, .int fmk, .int fwt])), (fb, .inl (cI, 24, .inl fvl)), (fc, .inl (cI, 84, .inl fpt)), (na, .inr (2, [.ref nla, .ref nua, .ref nn, .int ntr])), (nla, .inr (1, [.int nlst, .int nlla, .int nlbw, .int nlbf, .int nlbd, .ref nlb, .ref nlc])), (nlb, .inl (cF, 6, .inr (.inr (.inl nlsh)))), (nlc, .inl (cF, 6, .inr (.inr (.inl nlsb)))), (nua, .inr (1, [.int nust, .int nula, .int nubw, .int nubf, .int nubd, .ref nub, .ref nuc])), (nub, .inl (cF, 6, .inr (.inr (.inl nush)))), (nuc, .inl (cF, 6, .inr (.inr (.inl nusb)))), (nn, .inl (cI, 3, .inl nnm)), (ga, .inr (2, [.ref gla, .ref gua, .ref gn, .int gtr])), (gla, .inr (1, [.int glst, .int glla, .int glbw, .int glbf, .int glbd, .ref glb, .ref glc])), (glb, .inl (cF, 6, .inr (.inr (.inl glsh)))), (glc, .inl (cF, 6, .inr (.inr (.inl glsb)))), (gua, .inr (1, [.int gust, .int gula, .int gubw, .int gubf, .int gubd, .ref gub, .ref guc])), (gub, .inl (cF, 6, .inr (.inr (.inl gush)))), (guc, .inl (cF, 6, .inr (.inr (.inl gusb)))), (gn, .inl (cI, 3, .inl gnm))] [(xa, .inr (5, [.ref ta, .ref fa, .ref da, .ref na, .ref ga, .ref xp, .ref xs, .ref xi, .ref xh, .int np, .int un])), (fa, .inr (0, [.int fst, .ref fb, .int fwy, .ref fc, .int fmk, .int fwt])), (fb, .inl (cI, 24, .inl fvl)), (fc, .inl (cI, 84, .inl fpt)), (na, .inr (2, [.ref nla, .ref nua, .ref nn, .int ntr])), (nla, .inr (1, [.int nlst, .int nlla, .int nlbw, .int nlbf, .int nlbd, .ref nlb, .ref nlc])), (nlb, .inl (cF, 6, .inr (.inr (.inl nlsh)))), (nlc, .inl (cF, 6, .inr (.inr (.inl nlsb)))), (nua, .inr (1, [.int nust, .int nula, .int nubw, .int nubf, .int nubd, .ref nub, .ref nuc])), (nub, .inl (cF, 6, .inr (.inr (.inl nush)))), (nuc, .inl (cF, 6, .inr (.inr (.inl nusb)))), (nn, .inl (cI, 3, .inl nnm)), (ga, .inr (2, [.ref gla, .ref gua, .ref gn, .int zz.2.2.2.2.2.2.1])), (gla, .inr (1, [.int zz.2.2.2.2.2.2.2.1, .int zz.2.2.2.2.2.2.2.2.1, .int zz.2.2.2.2.2.2.2.2.2.1, .int zz.2.2.2.2.2.2.2.2.2.2.1, .int zz.2.2.2.2.2.2.2.2.2.2.2.1, .ref glb, .ref glc])), (glb, .inl (cF, 6, .inr (.inr (.inl zz.2.1)))), (glc, .inl (cF, 6, .inr (.inr (.inl zz.2.2.1)))), (gua, .inr (1, [.int zz.2.2.2.2.2.2.2.2.2.2.2.2.1, .int zz.2.2.2.2.2.2.2.2.2.2.2.2.2.1, .int zz.2.2.2.2.2.2.2.2.2.2.2.2.2.2.1, .int zz.2.2.2.2.2.2.2.2.2.2.2.2.2.2.2.1, .int zz.2.2.2.2.2.2.2.2.2.2.2.2.2.2.2.2, .ref gub, .ref guc])), (gub, .inl (cF, 6, .inr (.inr (.inl zz.2.2.2.1)))), (guc, .inl (cF, 6, .inr (.inr (.inl zz.2.2.2.2.1)))), (gn, .inl (cI, 3, .inl zz.2.2.2.2.2.1))] (some (.int zz.1)) := by
  refine Ct.ofW (cc := cX5_until) (maxL := 4) (ret := (some .int)) (by decide) rfl (Nat.le_of_ble_eq_true rfl) ?_
  intro p e s m args below meth c hx hb hr hml hts hown hlocks hnm hK hE A Q hQ hB H locs ls hP hD hS hl
  have hl : lv_has ls 4 [(0, .ref xa), (1, .int i), (2, .int k)] := hl
  have w0 : ∀ w ∈ u_ws RX5 TX5 11, w ∈ wsX5_until := by decide +kernel
  have w1 := hts (.fieldLink RX5 33 "MotionStates" "guess" "LMotionStates$Motion;") (by decide +kernel)
  have w2 := hts (.fieldLink RX5 29 "MotionStates" "now" "LMotionStates$Motion;") (by decide +kernel)
  have w3 : ∀ w ∈ u_ws RX1 TX1 7, w ∈ wsX5_until := by decide +kernel
  have w4 : (Cond.fieldLinkNest "MotionStates" 120 "MotionStates$Layer" "state" "I" "MotionStates").before args s = true := va_Nw.use rfl (hE.1 ("MotionStates", 120, "MotionStates$Layer", "state", "I", "MotionStates") (by decide +kernel))
  have w5 := hts (.fieldLink RX5 19 "MotionStates" "told" "LMotionStates$Figure;") (by decide +kernel)
  have L31 : ∀ (n : Nat) (o11 : Nat → Int32) (x3_31 : Int32) (gtr_31 : Int32) (glst_31 : Int32) (glla_31 : Int32) (glbw_31 : Int32) (glbf_31 : Int32) (glbd_31 : Int32) (glsh_31 : Nat → UInt32) (glsb_31 : Nat → UInt32) (gust_31 : Int32) (gula_31 : Int32) (gubw_31 : Int32) (gubf_31 : Int32) (gubd_31 : Int32) (gush_31 : Nat → UInt32) (gusb_31 : Nat → UInt32), f_X5_until_L31 o11 i k fwy fpt n x3_31 gtr_31 glst_31 glla_31 glbw_31 glbf_31 glbd_31 glsh_31 glsb_31 gust_31 gula_31 gubw_31 gubf_31 gubd_31 gush_31 gusb_31 = some zz → ∀ (H : Heap) (locs : List Loc) (ls : Array Slot), va_P D vwCl [(xa, .inr (5, [.ref ta, .ref fa, .ref da, .ref na, .ref ga, .ref xp, .ref xs, .ref xi, .ref xh, .int np, .int un])), (fa, .inr (0, [.int fst, .ref fb, .int fwy, .ref fc, .int fmk, .int fwt])), (fb, .inl (cI, 24, .inl fvl)), (fc, .inl (cI, 84, .inl fpt)), (na, .inr (2, [.ref nla, .ref nua, .ref nn, .int ntr])), (nla, .inr (1, [.int nlst, .int nlla, .int nlbw, .int nlbf, .int nlbd, .ref nlb, .ref nlc])), (nlb, .inl (cF, 6, .inr (.inr (.inl nlsh)))), (nlc, .inl (cF, 6, .inr (.inr (.inl nlsb)))), (nua, .inr (1, [.int nust, .int nula, .int nubw, .int nubf, .int nubd, .ref nub, .ref nuc])), (nub, .inl (cF, 6, .inr (.inr (.inl nush)))), (nuc, .inl (cF, 6, .inr (.inr (.inl nusb)))), (nn, .inl (cI, 3, .inl nnm)), (ga, .inr (2, [.ref gla, .ref gua, .ref gn, .int gtr_31])), (gla, .inr (1, [.int glst_31, .int glla_31, .int glbw_31, .int glbf_31, .int glbd_31, .ref glb, .ref glc])), (glb, .inl (cF, 6, .inr (.inr (.inl glsh_31)))), (glc, .inl (cF, 6, .inr (.inr (.inl glsb_31)))), (gua, .inr (1, [.int gust_31, .int gula_31, .int gubw_31, .int gubf_31, .int gubd_31, .ref gub, .ref guc])), (gub, .inl (cF, 6, .inr (.inr (.inl gush_31)))), (guc, .inl (cF, 6, .inr (.inr (.inl gusb_31)))), (gn, .inl (cI, 3, .inl o11))] H → va_D A [(xa, .inr (5, [.ref ta, .ref fa, .ref da, .ref na, .ref ga, .ref xp, .ref xs, .ref xi, .ref xh, .int np, .int un])), (fa, .inr (0, [.int fst, .ref fb, .int fwy, .ref fc, .int fmk, .int fwt])), (fb, .inl (cI, 24, .inl fvl)), (fc, .inl (cI, 84, .inl fpt)), (na, .inr (2, [.ref nla, .ref nua, .ref nn, .int ntr])), (nla, .inr (1, [.int nlst, .int nlla, .int nlbw, .int nlbf, .int nlbd, .ref nlb, .ref nlc])), (nlb, .inl (cF, 6, .inr (.inr (.inl nlsh)))), (nlc, .inl (cF, 6, .inr (.inr (.inl nlsb)))), (nua, .inr (1, [.int nust, .int nula, .int nubw, .int nubf, .int nubd, .ref nub, .ref nuc])), (nub, .inl (cF, 6, .inr (.inr (.inl nush)))), (nuc, .inl (cF, 6, .inr (.inr (.inl nusb)))), (nn, .inl (cI, 3, .inl nnm)), (ga, .inr (2, [.ref gla, .ref gua, .ref gn, .int gtr_31])), (gla, .inr (1, [.int glst_31, .int glla_31, .int glbw_31, .int glbf_31, .int glbd_31, .ref glb, .ref glc])), (glb, .inl (cF, 6, .inr (.inr (.inl glsh_31)))), (glc, .inl (cF, 6, .inr (.inr (.inl glsb_31)))), (gua, .inr (1, [.int gust_31, .int gula_31, .int gubw_31, .int gubf_31, .int gubd_31, .ref gub, .ref guc])), (gub, .inl (cF, 6, .inr (.inr (.inl gush_31)))), (guc, .inl (cF, 6, .inr (.inr (.inl gusb_31)))), (gn, .inl (cI, 3, .inl o11))] → va_S A s.heap H locs → lv_has ls 4 [(3, .int x3_31), (0, .ref xa), (1, .int i), (2, .int k)] → W p l e { frames := 6, cells := 0, slots := 0, locals := 157 } s m args below meth c H locs 0 0 Q (F0 m 31 ls []) := by
    intro n o11
    induction n with
    | zero => intro x3_31 gtr_31 glst_31 glla_31 glbw_31 glbf_31 glbd_31 glsh_31 glsb_31 gust_31 gula_31 gubw_31 gubf_31 gubd_31 gush_31 gusb_31 hf; exact absurd hf (by simp [f_X5_until_L31])
    | succ n ih =>
      intro x3_31 gtr_31 glst_31 glla_31 glbw_31 glbf_31 glbd_31 glsh_31 glsb_31 gust_31 gula_31 gubw_31 gubf_31 gubd_31 gush_31 gusb_31 hf H locs ls hP hD hS hl
      rw [f_X5_until_L31] at hf
      refine lv_iload_n hx hb dX5_until_31 rfl (lv_at hl 0 rfl) ?_
      refine lv_sipush (v := 300) hx hb dX5_until_32 (by decide) ?_
      refine lv_icmp_gt (tgt := 72) hx hb dX5_until_35 (by decide) (fun c24 => ?_) (fun c24 => ?_)
      · have hf := if_p c24 hf
        refine lv_iconst (v := (-1)) hx hb dX5_until_72 (by decide) ?_
        have h1 := Option.some.inj hf
        subst h1
        rw [hQ]
        exact W.iret (v := (-1)) hx hb hr (fun t ht hW => qEnd hP hS ht) hS.2.2 dX5_until_73
      · have hf := if_n c24 hf
        refine lv_aload_n hx hb dX5_until_38 rfl (lv_at hl 1 rfl) ?_
        refine va_get (D := D) (ci := 5) (v := .ref ga) (C := RX5) (T := TX5) (N := 11) hx hb hts w0 hown hK hP 0 rfl rfl 4 (by decide) w1 (fun _ h9 => h9) rfl dX5_until_39 ?_
        refine lv_iload_n hx hb dX5_until_42 rfl (lv_at hl 2 rfl) ?_
        by_cases c25 : i = 0
        · have hf := if_p c25 hf
          refine W.eq (g2 := F0 m 43 ls [.int 0, .ref ga]) (by rw [c25]) ?_
          obtain ⟨_, hc26, hf⟩ := bd_inv hf
          refine xcV (As := [.int 0]) (rest := []) (ws' := [(xa, .inr (5, [.ref ta, .ref fa, .ref da, .ref na, .ref ga, .ref xp, .ref xs, .ref xi, .ref xh, .int np, .int un])), (fa, .inr (0, [.int fst, .ref fb, .int fwy, .ref fc, .int fmk, .int fwt])), (fb, .inl (cI, 24, .inl fvl)), (fc, .inl (cI, 84, .inl fpt)), (na, .inr (2, [.ref nla, .ref nua, .ref nn, .int ntr])), (nla, .inr (1, [.int nlst, .int nlla, .int nlbw, .int nlbf, .int nlbd, .ref nlb, .ref nlc])), (nlb, .inl (cF, 6, .inr (.inr (.inl nlsh)))), (nlc, .inl (cF, 6, .inr (.inr (.inl nlsb)))), (nua, .inr (1, [.int nust, .int nula, .int nubw, .int nubf, .int nubd, .ref nub, .ref nuc])), (nub, .inl (cF, 6, .inr (.inr (.inl nush)))), (nuc, .inl (cF, 6, .inr (.inr (.inl nusb)))), (nn, .inl (cI, 3, .inl nnm)), (ga, .inr (2, [.ref gla, .ref gua, .ref gn, .int gtr_31])), (gla, .inr (1, [.int glst_31, .int glla_31, .int glbw_31, .int glbf_31, .int glbd_31, .ref glb, .ref glc])), (glb, .inl (cF, 6, .inr (.inr (.inl glsh_31)))), (glc, .inl (cF, 6, .inr (.inr (.inl glsb_31)))), (gua, .inr (1, [.int gust_31, .int gula_31, .int gubw_31, .int gubf_31, .int gubd_31, .ref gub, .ref guc])), (gub, .inl (cF, 6, .inr (.inr (.inl gush_31)))), (guc, .inl (cF, 6, .inr (.inr (.inl gusb_31)))), (gn, .inl (cI, 3, .inl o11))]) ⟨hx, hb, hml, hown, hts⟩ (c_X2_layerAt_0 l D B adK adV cC cF cI cZ cM cS ga gla gua gn gtr_31 o11   hc26) (cwV 1 hts gX5_until_X2_layerAt rfl rfl rfl (by decide +kernel) ⟨Nat.le_of_ble_eq_true rfl, Nat.le_of_ble_eq_true rfl⟩) (va_recv hK hP (ci := 2) (q0 := 12) rfl rfl) hK hP hD hS hB hE [12, 19] rfl rfl rfl rfl rfl hl.1 rfl (Nat.le_of_ble_eq_true rfl) dX5_until_43 ⟨Nat.le_of_ble_eq_true rfl, Nat.le_of_ble_eq_true rfl⟩ (fun H locs hP hD hS => ?_)
          refine W.eq (g2 := F0 m 46 ls [.ref gla]) rfl ?_
          refine va_getN (D := D) (ci := 1) (v := .int glst_31) (C := RX1) (T := TX1) (N := 7) hx hb hts w3 hown hK hP 13 rfl rfl 0 (by decide) w4 (fun _ h9 => h9) rfl dX5_until_46 ?_
          refine lv_iload_n hx hb dX5_until_49 rfl (lv_at hl 3 rfl) ?_
          refine lv_icmp_ne (tgt := 55) hx hb dX5_until_50 (by decide) (fun c27 => ?_) (fun c27 => ?_)
          · have hf := if_n c27 hf
            refine lv_aload_n hx hb dX5_until_55 rfl (lv_at hl 1 rfl) ?_
            refine va_get (D := D) (ci := 5) (v := .ref ga) (C := RX5) (T := TX5) (N := 11) hx hb hts w0 hown hK hP 0 rfl rfl 4 (by decide) w1 (fun _ h9 => h9) rfl dX5_until_56 ?_
            refine lv_aload_n hx hb dX5_until_59 rfl (lv_at hl 1 rfl) ?_
            refine va_get (D := D) (ci := 5) (v := .ref fa) (C := RX5) (T := TX5) (N := 11) hx hb hts w0 hown hK hP 0 rfl rfl 1 (by decide) w5 (fun _ h9 => h9) rfl dX5_until_60 ?_
            obtain ⟨⟨o28, o29, o30, o31, o32, o33, o34, o35, o36, o37, o38, o39, o40, o41, o42⟩, hc43, hf⟩ := bd_inv hf
            refine xcV (As := [.ref fa]) (rest := []) (ws' := [(xa, .inr (5, [.ref ta, .ref fa, .ref da, .ref na, .ref ga, .ref xp, .ref xs, .ref xi, .ref xh, .int np, .int un])), (fa, .inr (0, [.int fst, .ref fb, .int fwy, .ref fc, .int fmk, .int fwt])), (fb, .inl (cI, 24, .inl fvl)), (fc, .inl (cI, 84, .inl fpt)), (na, .inr (2, [.ref nla, .ref nua, .ref nn, .int ntr])), (nla, .inr (1, [.int nlst, .int nlla, .int nlbw, .int nlbf, .int nlbd, .ref nlb, .ref nlc])), (nlb, .inl (cF, 6, .inr (.inr (.inl nlsh)))), (nlc, .inl (cF, 6, .inr (.inr (.inl nlsb)))), (nua, .inr (1, [.int nust, .int nula, .int nubw, .int nubf, .int nubd, .ref nub, .ref nuc])), (nub, .inl (cF, 6, .inr (.inr (.inl nush)))), (nuc, .inl (cF, 6, .inr (.inr (.inl nusb)))), (nn, .inl (cI, 3, .inl nnm)), (ga, .inr (2, [.ref gla, .ref gua, .ref gn, .int o32])), (gla, .inr (1, [.int o33, .int o34, .int o35, .int o36, .int o37, .ref glb, .ref glc])), (glb, .inl (cF, 6, .inr (.inr (.inl o28)))), (glc, .inl (cF, 6, .inr (.inr (.inl o29)))), (gua, .inr (1, [.int o38, .int o39, .int o40, .int o41, .int o42, .ref gub, .ref guc])), (gub, .inl (cF, 6, .inr (.inr (.inl o30)))), (guc, .inl (cF, 6, .inr (.inr (.inl o31)))), (gn, .inl (cI, 3, .inl o11))]) ⟨hx, hb, hml, hown, hts⟩ (c_X2_goOn l D B adK adV cC cF cI cZ cM cS ga gla gua gn gtr_31 glst_31 glla_31 glbw_31 glbf_31 glbd_31 glb glc glsh_31 glsb_31 gust_31 gula_31 gubw_31 gubf_31 gubd_31 gub guc gush_31 gusb_31 o11 fa fst fb fwy fc fmk fwt fvl fpt  (o28, o29, o30, o31, o32, o33, o34, o35, o36, o37, o38, o39, o40, o41, o42) hc43) (cwV 1 hts gX5_until_X2_goOn rfl rfl rfl (by decide +kernel) ⟨Nat.le_of_ble_eq_true rfl, Nat.le_of_ble_eq_true rfl⟩) (va_recv hK hP (ci := 2) (q0 := 12) rfl rfl) hK hP hD hS hB hE [12, 13, 14, 15, 16, 17, 18, 19, 1, 2, 3] rfl rfl rfl rfl rfl hl.1 rfl (Nat.le_of_ble_eq_true rfl) dX5_until_63 ⟨Nat.le_of_ble_eq_true rfl, Nat.le_of_ble_eq_true rfl⟩ (fun H locs hP hD hS => ?_)
            refine W.eq (g2 := F0 m 66 ls []) rfl ?_
            refine lv_iinc (v := x3_31 + 1) (lv' := [(3, .int (x3_31 + 1)), (0, .ref xa), (1, .int i), (2, .int k)]) hx hb dX5_until_66 hl (k := 0) rfl rfl (by decide) rfl (fun ls hl => ?_)
            refine lv_goto (tgt := 31) hx hb dX5_until_69 (by decide) ?_
            exact ih (x3_31 + 1) o32 o33 o34 o35 o36 o37 o28 o29 o38 o39 o40 o41 o42 o30 o31 hf H locs ls hP hD hS (lv_sub hl [0, 1, 2, 3] rfl)
          · have hf := if_p c27 hf
            refine lv_iload_n hx hb dX5_until_53 rfl (lv_at hl 0 rfl) ?_
            have h1 := Option.some.inj hf
            subst h1
            rw [hQ]
            exact W.iret (v := x3_31) hx hb hr (fun t ht hW => qEnd hP hS ht) hS.2.2 dX5_until_54
        · have hf := if_n c25 hf
          by_cases c44 : i = 1
          · have hf := if_p c44 hf
            refine W.eq (g2 := F0 m 43 ls [.int 1, .ref ga]) (by rw [c44]) ?_
            obtain ⟨_, hc45, hf⟩ := bd_inv hf
            refine xcV (As := [.int 1]) (rest := []) (ws' := [(xa, .inr (5, [.ref ta, .ref fa, .ref da, .ref na, .ref ga, .ref xp, .ref xs, .ref xi, .ref xh, .int np, .int un])), (fa, .inr (0, [.int fst, .ref fb, .int fwy, .ref fc, .int fmk, .int fwt])), (fb, .inl (cI, 24, .inl fvl)), (fc, .inl (cI, 84, .inl fpt)), (na, .inr (2, [.ref nla, .ref nua, .ref nn, .int ntr])), (nla, .inr (1, [.int nlst, .int nlla, .int nlbw, .int nlbf, .int nlbd, .ref nlb, .ref nlc])), (nlb, .inl (cF, 6, .inr (.inr (.inl nlsh)))), (nlc, .inl (cF, 6, .inr (.inr (.inl nlsb)))), (nua, .inr (1, [.int nust, .int nula, .int nubw, .int nubf, .int nubd, .ref nub, .ref nuc])), (nub, .inl (cF, 6, .inr (.inr (.inl nush)))), (nuc, .inl (cF, 6, .inr (.inr (.inl nusb)))), (nn, .inl (cI, 3, .inl nnm)), (ga, .inr (2, [.ref gla, .ref gua, .ref gn, .int gtr_31])), (gla, .inr (1, [.int glst_31, .int glla_31, .int glbw_31, .int glbf_31, .int glbd_31, .ref glb, .ref glc])), (glb, .inl (cF, 6, .inr (.inr (.inl glsh_31)))), (glc, .inl (cF, 6, .inr (.inr (.inl glsb_31)))), (gua, .inr (1, [.int gust_31, .int gula_31, .int gubw_31, .int gubf_31, .int gubd_31, .ref gub, .ref guc])), (gub, .inl (cF, 6, .inr (.inr (.inl gush_31)))), (guc, .inl (cF, 6, .inr (.inr (.inl gusb_31)))), (gn, .inl (cI, 3, .inl o11))]) ⟨hx, hb, hml, hown, hts⟩ (c_X2_layerAt_1 l D B adK adV cC cF cI cZ cM cS ga gla gua gn gtr_31 o11   hc45) (cwV 1 hts gX5_until_X2_layerAt rfl rfl rfl (by decide +kernel) ⟨Nat.le_of_ble_eq_true rfl, Nat.le_of_ble_eq_true rfl⟩) (va_recv hK hP (ci := 2) (q0 := 12) rfl rfl) hK hP hD hS hB hE [12, 19] rfl rfl rfl rfl rfl hl.1 rfl (Nat.le_of_ble_eq_true rfl) dX5_until_43 ⟨Nat.le_of_ble_eq_true rfl, Nat.le_of_ble_eq_true rfl⟩ (fun H locs hP hD hS => ?_)
            refine W.eq (g2 := F0 m 46 ls [.ref gua]) rfl ?_
            refine va_getN (D := D) (ci := 1) (v := .int gust_31) (C := RX1) (T := TX1) (N := 7) hx hb hts w3 hown hK hP 16 rfl rfl 0 (by decide) w4 (fun _ h9 => h9) rfl dX5_until_46 ?_
            refine lv_iload_n hx hb dX5_until_49 rfl (lv_at hl 3 rfl) ?_
            refine lv_icmp_ne (tgt := 55) hx hb dX5_until_50 (by decide) (fun c46 => ?_) (fun c46 => ?_)
            · have hf := if_n c46 hf
              refine lv_aload_n hx hb dX5_until_55 rfl (lv_at hl 1 rfl) ?_
              refine va_get (D := D) (ci := 5) (v := .ref ga) (C := RX5) (T := TX5) (N := 11) hx hb hts w0 hown hK hP 0 rfl rfl 4 (by decide) w1 (fun _ h9 => h9) rfl dX5_until_56 ?_
              refine lv_aload_n hx hb dX5_until_59 rfl (lv_at hl 1 rfl) ?_
              refine va_get (D := D) (ci := 5) (v := .ref fa) (C := RX5) (T := TX5) (N := 11) hx hb hts w0 hown hK hP 0 rfl rfl 1 (by decide) w5 (fun _ h9 => h9) rfl dX5_until_60 ?_
              obtain ⟨⟨o47, o48, o49, o50, o51, o52, o53, o54, o55, o56, o57, o58, o59, o60, o61⟩, hc62, hf⟩ := bd_inv hf
              refine xcV (As := [.ref fa]) (rest := []) (ws' := [(xa, .inr (5, [.ref ta, .ref fa, .ref da, .ref na, .ref ga, .ref xp, .ref xs, .ref xi, .ref xh, .int np, .int un])), (fa, .inr (0, [.int fst, .ref fb, .int fwy, .ref fc, .int fmk, .int fwt])), (fb, .inl (cI, 24, .inl fvl)), (fc, .inl (cI, 84, .inl fpt)), (na, .inr (2, [.ref nla, .ref nua, .ref nn, .int ntr])), (nla, .inr (1, [.int nlst, .int nlla, .int nlbw, .int nlbf, .int nlbd, .ref nlb, .ref nlc])), (nlb, .inl (cF, 6, .inr (.inr (.inl nlsh)))), (nlc, .inl (cF, 6, .inr (.inr (.inl nlsb)))), (nua, .inr (1, [.int nust, .int nula, .int nubw, .int nubf, .int nubd, .ref nub, .ref nuc])), (nub, .inl (cF, 6, .inr (.inr (.inl nush)))), (nuc, .inl (cF, 6, .inr (.inr (.inl nusb)))), (nn, .inl (cI, 3, .inl nnm)), (ga, .inr (2, [.ref gla, .ref gua, .ref gn, .int o51])), (gla, .inr (1, [.int o52, .int o53, .int o54, .int o55, .int o56, .ref glb, .ref glc])), (glb, .inl (cF, 6, .inr (.inr (.inl o47)))), (glc, .inl (cF, 6, .inr (.inr (.inl o48)))), (gua, .inr (1, [.int o57, .int o58, .int o59, .int o60, .int o61, .ref gub, .ref guc])), (gub, .inl (cF, 6, .inr (.inr (.inl o49)))), (guc, .inl (cF, 6, .inr (.inr (.inl o50)))), (gn, .inl (cI, 3, .inl o11))]) ⟨hx, hb, hml, hown, hts⟩ (c_X2_goOn l D B adK adV cC cF cI cZ cM cS ga gla gua gn gtr_31 glst_31 glla_31 glbw_31 glbf_31 glbd_31 glb glc glsh_31 glsb_31 gust_31 gula_31 gubw_31 gubf_31 gubd_31 gub guc gush_31 gusb_31 o11 fa fst fb fwy fc fmk fwt fvl fpt  (o47, o48, o49, o50, o51, o52, o53, o54, o55, o56, o57, o58, o59, o60, o61) hc62) (cwV 1 hts gX5_until_X2_goOn rfl rfl rfl (by decide +kernel) ⟨Nat.le_of_ble_eq_true rfl, Nat.le_of_ble_eq_true rfl⟩) (va_recv hK hP (ci := 2) (q0 := 12) rfl rfl) hK hP hD hS hB hE [12, 13, 14, 15, 16, 17, 18, 19, 1, 2, 3] rfl rfl rfl rfl rfl hl.1 rfl (Nat.le_of_ble_eq_true rfl) dX5_until_63 ⟨Nat.le_of_ble_eq_true rfl, Nat.le_of_ble_eq_true rfl⟩ (fun H locs hP hD hS => ?_)
              refine W.eq (g2 := F0 m 66 ls []) rfl ?_
              refine lv_iinc (v := x3_31 + 1) (lv' := [(3, .int (x3_31 + 1)), (0, .ref xa), (1, .int i), (2, .int k)]) hx hb dX5_until_66 hl (k := 0) rfl rfl (by decide) rfl (fun ls hl => ?_)
              refine lv_goto (tgt := 31) hx hb dX5_until_69 (by decide) ?_
              exact ih (x3_31 + 1) o51 o52 o53 o54 o55 o56 o47 o48 o57 o58 o59 o60 o61 o49 o50 hf H locs ls hP hD hS (lv_sub hl [0, 1, 2, 3] rfl)
            · have hf := if_p c46 hf
              refine lv_iload_n hx hb dX5_until_53 rfl (lv_at hl 0 rfl) ?_
              have h1 := Option.some.inj hf
              subst h1
              rw [hQ]
              exact W.iret (v := x3_31) hx hb hr (fun t ht hW => qEnd hP hS ht) hS.2.2 dX5_until_54
          · have hf := if_n c44 hf
            cases hf
  unfold f_X5_until at hf
  refine lv_iload_n hx hb dX5_until_0 rfl (lv_at hl 1 rfl) ?_
  obtain ⟨r1, hc2, hf⟩ := bd_inv hf
  refine xcS (As := [.int i]) (rest := []) (ws' := [(xa, .inr (5, [.ref ta, .ref fa, .ref da, .ref na, .ref ga, .ref xp, .ref xs, .ref xi, .ref xh, .int np, .int un])), (fa, .inr (0, [.int fst, .ref fb, .int fwy, .ref fc, .int fmk, .int fwt])), (fb, .inl (cI, 24, .inl fvl)), (fc, .inl (cI, 84, .inl fpt)), (na, .inr (2, [.ref nla, .ref nua, .ref nn, .int ntr])), (nla, .inr (1, [.int nlst, .int nlla, .int nlbw, .int nlbf, .int nlbd, .ref nlb, .ref nlc])), (nlb, .inl (cF, 6, .inr (.inr (.inl nlsh)))), (nlc, .inl (cF, 6, .inr (.inr (.inl nlsb)))), (nua, .inr (1, [.int nust, .int nula, .int nubw, .int nubf, .int nubd, .ref nub, .ref nuc])), (nub, .inl (cF, 6, .inr (.inr (.inl nush)))), (nuc, .inl (cF, 6, .inr (.inr (.inl nusb)))), (nn, .inl (cI, 3, .inl nnm)), (ga, .inr (2, [.ref gla, .ref gua, .ref gn, .int gtr])), (gla, .inr (1, [.int glst, .int glla, .int glbw, .int glbf, .int glbd, .ref glb, .ref glc])), (glb, .inl (cF, 6, .inr (.inr (.inl glsh)))), (glc, .inl (cF, 6, .inr (.inr (.inl glsb)))), (gua, .inr (1, [.int gust, .int gula, .int gubw, .int gubf, .int gubd, .ref gub, .ref guc])), (gub, .inl (cF, 6, .inr (.inr (.inl gush)))), (guc, .inl (cF, 6, .inr (.inr (.inl gusb)))), (gn, .inl (cI, 3, .inl gnm))]) ⟨hx, hb, hml, hown, hts⟩ (c_X5_isLayer l D B adK adV cC cF cI cZ cM cS i  r1 hc2) (va_cwS 1 hts gX5_until_X5_isLayer rfl rfl rfl (by decide +kernel) ⟨Nat.le_of_ble_eq_true rfl, Nat.le_of_ble_eq_true rfl⟩) hK hP hD hS hB hE [] rfl rfl rfl rfl rfl hl.1 rfl (Nat.le_of_ble_eq_true rfl) dX5_until_1 ⟨Nat.le_of_ble_eq_true rfl, Nat.le_of_ble_eq_true rfl⟩ (fun H locs hP hD hS => ?_)
  refine W.eq (g2 := F0 m 4 ls [.int r1]) rfl ?_
  refine lv_if_eq (tgt := 15) hx hb dX5_until_4 (by decide) (fun c3 => ?_) (fun c3 => ?_)
  · have hf := if_p c3 hf
    refine lv_bipush (v := (-2)) hx hb dX5_until_15 (by decide) ?_
    have h1 := Option.some.inj hf
    subst h1
    rw [hQ]
    exact W.iret (v := (-2)) hx hb hr (fun t ht hW => qEnd hP hS ht) hS.2.2 dX5_until_17
  · have hf := if_n c3 hf
    refine lv_aload_n hx hb dX5_until_7 rfl (lv_at hl 0 rfl) ?_
    refine lv_iload_n hx hb dX5_until_8 rfl (lv_at hl 2 rfl) ?_
    obtain ⟨r4, hc5, hf⟩ := bd_inv hf
    refine xcV (As := [.int k]) (rest := []) (ws' := [(xa, .inr (5, [.ref ta, .ref fa, .ref da, .ref na, .ref ga, .ref xp, .ref xs, .ref xi, .ref xh, .int np, .int un])), (fa, .inr (0, [.int fst, .ref fb, .int fwy, .ref fc, .int fmk, .int fwt])), (fb, .inl (cI, 24, .inl fvl)), (fc, .inl (cI, 84, .inl fpt)), (na, .inr (2, [.ref nla, .ref nua, .ref nn, .int ntr])), (nla, .inr (1, [.int nlst, .int nlla, .int nlbw, .int nlbf, .int nlbd, .ref nlb, .ref nlc])), (nlb, .inl (cF, 6, .inr (.inr (.inl nlsh)))), (nlc, .inl (cF, 6, .inr (.inr (.inl nlsb)))), (nua, .inr (1, [.int nust, .int nula, .int nubw, .int nubf, .int nubd, .ref nub, .ref nuc])), (nub, .inl (cF, 6, .inr (.inr (.inl nush)))), (nuc, .inl (cF, 6, .inr (.inr (.inl nusb)))), (nn, .inl (cI, 3, .inl nnm)), (ga, .inr (2, [.ref gla, .ref gua, .ref gn, .int gtr])), (gla, .inr (1, [.int glst, .int glla, .int glbw, .int glbf, .int glbd, .ref glb, .ref glc])), (glb, .inl (cF, 6, .inr (.inr (.inl glsh)))), (glc, .inl (cF, 6, .inr (.inr (.inl glsb)))), (gua, .inr (1, [.int gust, .int gula, .int gubw, .int gubf, .int gubd, .ref gub, .ref guc])), (gub, .inl (cF, 6, .inr (.inr (.inl gush)))), (guc, .inl (cF, 6, .inr (.inr (.inl gusb)))), (gn, .inl (cI, 3, .inl gnm))]) ⟨hx, hb, hml, hown, hts⟩ (c_X5_isState l D B adK adV cC cF cI cZ cM cS xa ta fa da na ga xp xs xi xh np un fst fb fwy fc fmk fwt fvl fpt k  r4 hc5) (cwV 1 hts gX5_until_X5_isState rfl rfl rfl (by decide +kernel) ⟨Nat.le_of_ble_eq_true rfl, Nat.le_of_ble_eq_true rfl⟩) (va_recv hK hP (ci := 5) (q0 := 0) rfl rfl) hK hP hD hS hB hE [0, 1, 2, 3] rfl rfl rfl rfl rfl hl.1 rfl (Nat.le_of_ble_eq_true rfl) dX5_until_9 ⟨Nat.le_of_ble_eq_true rfl, Nat.le_of_ble_eq_true rfl⟩ (fun H locs hP hD hS => ?_)
    refine W.eq (g2 := F0 m 12 ls [.int r4]) rfl ?_
    refine lv_if_ne (tgt := 18) hx hb dX5_until_12 (by decide) (fun c6 => ?_) (fun c6 => ?_)
    · have hf := if_n c6 hf
      refine lv_aload_n hx hb dX5_until_18 rfl (lv_at hl 0 rfl) ?_
      refine va_get (D := D) (ci := 5) (v := .ref ga) (C := RX5) (T := TX5) (N := 11) hx hb hts w0 hown hK hP 0 rfl rfl 4 (by decide) w1 (fun _ h9 => h9) rfl dX5_until_19 ?_
      refine lv_aload_n hx hb dX5_until_22 rfl (lv_at hl 0 rfl) ?_
      refine va_get (D := D) (ci := 5) (v := .ref na) (C := RX5) (T := TX5) (N := 11) hx hb hts w0 hown hK hP 0 rfl rfl 3 (by decide) w2 (fun _ h9 => h9) rfl dX5_until_23 ?_
      obtain ⟨⟨o7, o8, o9, o10, o11, o12, o13, o14, o15, o16, o17, o18, o19, o20, o21, o22⟩, hc23, hf⟩ := bd_inv hf
      refine xcV (As := [.ref na]) (rest := []) (ws' := [(xa, .inr (5, [.ref ta, .ref fa, .ref da, .ref na, .ref ga, .ref xp, .ref xs, .ref xi, .ref xh, .int np, .int un])), (fa, .inr (0, [.int fst, .ref fb, .int fwy, .ref fc, .int fmk, .int fwt])), (fb, .inl (cI, 24, .inl fvl)), (fc, .inl (cI, 84, .inl fpt)), (na, .inr (2, [.ref nla, .ref nua, .ref nn, .int ntr])), (nla, .inr (1, [.int nlst, .int nlla, .int nlbw, .int nlbf, .int nlbd, .ref nlb, .ref nlc])), (nlb, .inl (cF, 6, .inr (.inr (.inl nlsh)))), (nlc, .inl (cF, 6, .inr (.inr (.inl nlsb)))), (nua, .inr (1, [.int nust, .int nula, .int nubw, .int nubf, .int nubd, .ref nub, .ref nuc])), (nub, .inl (cF, 6, .inr (.inr (.inl nush)))), (nuc, .inl (cF, 6, .inr (.inr (.inl nusb)))), (nn, .inl (cI, 3, .inl nnm)), (ga, .inr (2, [.ref gla, .ref gua, .ref gn, .int o12])), (gla, .inr (1, [.int o13, .int o14, .int o15, .int o16, .int o17, .ref glb, .ref glc])), (glb, .inl (cF, 6, .inr (.inr (.inl o7)))), (glc, .inl (cF, 6, .inr (.inr (.inl o8)))), (gua, .inr (1, [.int o18, .int o19, .int o20, .int o21, .int o22, .ref gub, .ref guc])), (gub, .inl (cF, 6, .inr (.inr (.inl o9)))), (guc, .inl (cF, 6, .inr (.inr (.inl o10)))), (gn, .inl (cI, 3, .inl o11))]) ⟨hx, hb, hml, hown, hts⟩ (c_X2_copyFrom l D B adK adV cC cF cI cZ cM cS ga gla gua gn gtr glst glla glbw glbf glbd glb glc glsh glsb gust gula gubw gubf gubd gub guc gush gusb gnm na nla nua nn ntr nlst nlla nlbw nlbf nlbd nlb nlc nlsh nlsb nust nula nubw nubf nubd nub nuc nush nusb nnm  (o7, o8, o9, o10, o11, o12, o13, o14, o15, o16, o17, o18, o19, o20, o21, o22) hc23) (cwV 1 hts gX5_until_X2_copyFrom rfl rfl rfl (by decide +kernel) ⟨Nat.le_of_ble_eq_true rfl, Nat.le_of_ble_eq_true rfl⟩) (va_recv hK hP (ci := 2) (q0 := 12) rfl rfl) hK hP hD hS hB hE [12, 13, 14, 15, 16, 17, 18, 19, 4, 5, 6, 7, 8, 9, 10, 11] rfl rfl rfl rfl rfl hl.1 rfl (Nat.le_of_ble_eq_true rfl) dX5_until_26 ⟨Nat.le_of_ble_eq_true rfl, Nat.le_of_ble_eq_true rfl⟩ (fun H locs hP hD hS => ?_)
      refine W.eq (g2 := F0 m 29 ls []) rfl ?_
      refine lv_iconst (v := 0) hx hb dX5_until_29 (by decide) ?_
      refine lv_istore_n (lv' := [(3, .int 0), (0, .ref xa), (1, .int i), (2, .int k)]) hx hb dX5_until_30 rfl hl (by decide) rfl (fun ls hl => ?_)
      exact L31 1000 o11 0 o12 o13 o14 o15 o16 o17 o7 o8 o18 o19 o20 o21 o22 o9 o10 hf H locs ls hP hD hS (lv_sub hl [0, 1, 2, 3] rfl)
    · have hf := if_p c6 hf
      refine lv_bipush (v := (-2)) hx hb dX5_until_15 (by decide) ?_
      have h1 := Option.some.inj hf
      subst h1
      rw [hQ]
      exact W.iret (v := (-2)) hx hb hr (fun t ht hW => qEnd hP hS ht) hS.2.2 dX5_until_17
set_option maxRecDepth 100000 in
set_option maxHeartbeats 4000000 in
theorem c_X5_pulled (l : Launch) (D : va_G) (B : Nat) (adK adV : Nat → Nat) (cC cF cI cZ cM cS : ClassId) (xa : Nat) (ta : Nat) (fa : Nat) (da : Nat) (na : Nat) (ga : Nat) (xp : Nat) (xs : Nat) (xi : Nat) (xh : Nat) (np : Int32) (un : Int32) (fst : Int32) (fb : Nat) (fwy : Int32) (fc : Nat) (fmk : Int32) (fwt : Int32) (fvl : Nat → Int32) (fpt : Nat → Int32) (nla : Nat) (nua : Nat) (nn : Nat) (ntr : Int32) (nlst : Int32) (nlla : Int32) (nlbw : Int32) (nlbf : Int32) (nlbd : Int32) (nlb : Nat) (nlc : Nat) (nlsh : Nat → UInt32) (nlsb : Nat → UInt32) (nust : Int32) (nula : Int32) (nubw : Int32) (nubf : Int32) (nubd : Int32) (nub : Nat) (nuc : Nat) (nush : Nat → UInt32) (nusb : Nat → UInt32) (nnm : Nat → Int32) (gla : Nat) (gua : Nat) (gn : Nat) (gtr : Int32) (glst : Int32) (glla : Int32) (glbw : Int32) (glbf : Int32) (glbd : Int32) (glb : Nat) (glc : Nat) (glsh : Nat → UInt32) (glsb : Nat → UInt32) (gust : Int32) (gula : Int32) (gubw : Int32) (gubf : Int32) (gubd : Int32) (gub : Nat) (guc : Nat) (gush : Nat → UInt32) (gusb : Nat → UInt32) (gnm : Nat → Int32) (i : Int32) (k : Int32) (zz : Int32 × (Nat → UInt32) × (Nat → UInt32) × (Nat → UInt32) × (Nat → UInt32) × (Nat → Int32) × Int32 × Int32 × Int32 × Int32 × Int32 × Int32 × Int32 × Int32 × Int32 × Int32 × Int32) (hf : f_X5_pulled fst fwy fpt ntr nlst nlla nlbw nlbf nlbd nlsh nlsb nust nula nubw nubf nubd nush nusb nnm gtr glst glla glbw glbf glbd glsh glsb gust gula gubw gubf gubd gush gusb gnm i k = some zz) : Ct l yX5_pulled wsX5_pulled { frames := 6, cells := 0, slots := 0, locals := 157 } D B adK adV (tysX cC cF cI cZ cM cS) [.ref xa, .int i, .int k] [(xa, .inr (5, [.ref ta, .ref fa, .ref da, .ref na, .ref ga, .ref xp, .ref xs, .ref xi, .ref xh, .int np, .int un])), (fa, .inr (0, [.int fst, .ref fb, .int fwy, .ref fc, .int fmk, .int fwt])), (fb, .inl (cI, 24, .inl fvl)), (fc, .inl (cI, 84, .inl fpt)), (na, .inr (2, [.ref nla, .ref nua, .ref nn, .int ntr])), (nla, .inr (1, [.int nlst, .int nlla, .int nlbw, .int nlbf, .int nlbd, .ref nlb, .ref nlc])), (nlb, .inl (cF, 6, .inr (.inr (.inl nlsh)))), (nlc, .inl (cF, 6, .inr (.inr (.inl nlsb)))), (nua, .inr (1, [.int nust, .int nula, .int nubw, .int nubf, .int nubd, .ref nub, .ref nuc])), (nub, .inl (cF, 6, .inr (.inr (.inl nush)))), (nuc, .inl (cF, 6, .inr (.inr (.inl nusb)))), (nn, .inl (cI, 3, .inl nnm)), (ga, .inr (2, [.ref gla, .ref gua, .ref gn, .int gtr])), (gla, .inr (1, [.int glst, .int glla, .int glbw, .int glbf, .int glbd, .ref glb, .ref glc])), (glb, .inl (cF, 6, .inr (.inr (.inl glsh)))), (glc, .inl (cF, 6, .inr (.inr (.inl glsb)))), (gua, .inr (1, [.int gust, .int gula, .int gubw, .int gubf, .int gubd, .ref gub, .ref guc])), (gub, .inl (cF, 6, .inr (.inr (.inl gush)))), (guc, .inl (cF, 6, .inr (.inr (.inl gusb)))), (gn, .inl (cI, 3, .inl gnm))] [(xa, .inr (5, [.ref ta, .ref fa, .ref da, .ref na, .ref ga, .ref xp, .ref xs, .ref xi, .ref xh, .int np, .int un])), (fa, .inr (0, [.int fst, .ref fb, .int fwy, .ref fc, .int fmk, .int fwt])), (fb, .inl (cI, 24, .inl fvl)), (fc, .inl (cI, 84, .inl fpt)), (na, .inr (2, [.ref nla, .ref nua, .ref nn, .int ntr])), (nla, .inr (1, [.int nlst, .int nlla, .int nlbw, .int nlbf, .int nlbd, .ref nlb, .ref nlc])), (nlb, .inl (cF, 6, .inr (.inr (.inl nlsh)))), (nlc, .inl (cF, 6, .inr (.inr (.inl nlsb)))), (nua, .inr (1, [.int nust, .int nula, .int nubw, .int nubf, .int nubd, .ref nub, .ref nuc])), (nub, .inl (cF, 6, .inr (.inr (.inl nush)))), (nuc, .inl (cF, 6, .inr (.inr (.inl nusb)))), (nn, .inl (cI, 3, .inl nnm)), (ga, .inr (2, [.ref gla, .ref gua, .ref gn, .int zz.2.2.2.2.2.2.1])), (gla, .inr (1, [.int zz.2.2.2.2.2.2.2.1, .int zz.2.2.2.2.2.2.2.2.1, .int zz.2.2.2.2.2.2.2.2.2.1, .int zz.2.2.2.2.2.2.2.2.2.2.1, .int zz.2.2.2.2.2.2.2.2.2.2.2.1, .ref glb, .ref glc])), (glb, .inl (cF, 6, .inr (.inr (.inl zz.2.1)))), (glc, .inl (cF, 6, .inr (.inr (.inl zz.2.2.1)))), (gua, .inr (1, [.int zz.2.2.2.2.2.2.2.2.2.2.2.2.1, .int zz.2.2.2.2.2.2.2.2.2.2.2.2.2.1, .int zz.2.2.2.2.2.2.2.2.2.2.2.2.2.2.1, .int zz.2.2.2.2.2.2.2.2.2.2.2.2.2.2.2.1, .int zz.2.2.2.2.2.2.2.2.2.2.2.2.2.2.2.2, .ref gub, .ref guc])), (gub, .inl (cF, 6, .inr (.inr (.inl zz.2.2.2.1)))), (guc, .inl (cF, 6, .inr (.inr (.inl zz.2.2.2.2.1)))), (gn, .inl (cI, 3, .inl zz.2.2.2.2.2.1))] (some (.int zz.1)) := by
  refine Ct.ofW (cc := cX5_pulled) (maxL := 3) (ret := (some .int)) (by decide) rfl (Nat.le_of_ble_eq_true rfl) ?_
  intro p e s m args below meth c hx hb hr hml hts hown hlocks hnm hK hE A Q hQ hB H locs ls hP hD hS hl
  have hl : lv_has ls 3 [(0, .ref xa), (1, .int i), (2, .int k)] := hl
  have w0 : ∀ w ∈ u_ws RX5 TX5 11, w ∈ wsX5_pulled := by decide +kernel
  have w1 := hts (.fieldLink RX5 19 "MotionStates" "told" "LMotionStates$Figure;") (by decide +kernel)
  have w2 : ∀ w ∈ u_ws RX0 TX0 6, w ∈ wsX5_pulled := by decide +kernel
  have w3 : (Cond.fieldLinkNest "MotionStates" 110 "MotionStates$Figure" "states" "I" "MotionStates").before args s = true := va_Nw.use rfl (hE.1 ("MotionStates", 110, "MotionStates$Figure", "states", "I", "MotionStates") (by decide +kernel))
  have w4 := hts (.fieldLink RX5 29 "MotionStates" "now" "LMotionStates$Motion;") (by decide +kernel)
  have w5 := hts (.fieldLink RX5 33 "MotionStates" "guess" "LMotionStates$Motion;") (by decide +kernel)
  have w6 : ∀ w ∈ u_ws RX1 TX1 7, w ∈ wsX5_pulled := by decide +kernel
  have w7 : (Cond.fieldLinkNest "MotionStates" 120 "MotionStates$Layer" "state" "I" "MotionStates").before args s = true := va_Nw.use rfl (hE.1 ("MotionStates", 120, "MotionStates$Layer", "state", "I", "MotionStates") (by decide +kernel))
  unfold f_X5_pulled at hf
  refine lv_iload_n hx hb dX5_pulled_0 rfl (lv_at hl 1 rfl) ?_
  obtain ⟨r1, hc2, hf⟩ := bd_inv hf
  refine xcS (As := [.int i]) (rest := []) (ws' := [(xa, .inr (5, [.ref ta, .ref fa, .ref da, .ref na, .ref ga, .ref xp, .ref xs, .ref xi, .ref xh, .int np, .int un])), (fa, .inr (0, [.int fst, .ref fb, .int fwy, .ref fc, .int fmk, .int fwt])), (fb, .inl (cI, 24, .inl fvl)), (fc, .inl (cI, 84, .inl fpt)), (na, .inr (2, [.ref nla, .ref nua, .ref nn, .int ntr])), (nla, .inr (1, [.int nlst, .int nlla, .int nlbw, .int nlbf, .int nlbd, .ref nlb, .ref nlc])), (nlb, .inl (cF, 6, .inr (.inr (.inl nlsh)))), (nlc, .inl (cF, 6, .inr (.inr (.inl nlsb)))), (nua, .inr (1, [.int nust, .int nula, .int nubw, .int nubf, .int nubd, .ref nub, .ref nuc])), (nub, .inl (cF, 6, .inr (.inr (.inl nush)))), (nuc, .inl (cF, 6, .inr (.inr (.inl nusb)))), (nn, .inl (cI, 3, .inl nnm)), (ga, .inr (2, [.ref gla, .ref gua, .ref gn, .int gtr])), (gla, .inr (1, [.int glst, .int glla, .int glbw, .int glbf, .int glbd, .ref glb, .ref glc])), (glb, .inl (cF, 6, .inr (.inr (.inl glsh)))), (glc, .inl (cF, 6, .inr (.inr (.inl glsb)))), (gua, .inr (1, [.int gust, .int gula, .int gubw, .int gubf, .int gubd, .ref gub, .ref guc])), (gub, .inl (cF, 6, .inr (.inr (.inl gush)))), (guc, .inl (cF, 6, .inr (.inr (.inl gusb)))), (gn, .inl (cI, 3, .inl gnm))]) ⟨hx, hb, hml, hown, hts⟩ (c_X5_isLayer l D B adK adV cC cF cI cZ cM cS i  r1 hc2) (va_cwS 1 hts gX5_pulled_X5_isLayer rfl rfl rfl (by decide +kernel) ⟨Nat.le_of_ble_eq_true rfl, Nat.le_of_ble_eq_true rfl⟩) hK hP hD hS hB hE [] rfl rfl rfl rfl rfl hl.1 rfl (Nat.le_of_ble_eq_true rfl) dX5_pulled_1 ⟨Nat.le_of_ble_eq_true rfl, Nat.le_of_ble_eq_true rfl⟩ (fun H locs hP hD hS => ?_)
  refine W.eq (g2 := F0 m 4 ls [.int r1]) rfl ?_
  refine lv_if_eq (tgt := 14) hx hb dX5_pulled_4 (by decide) (fun c3 => ?_) (fun c3 => ?_)
  · have hf := if_p c3 hf
    refine lv_bipush (v := (-2)) hx hb dX5_pulled_14 (by decide) ?_
    have h1 := Option.some.inj hf
    subst h1
    rw [hQ]
    exact W.iret (v := (-2)) hx hb hr (fun t ht hW => qEnd hP hS ht) hS.2.2 dX5_pulled_16
  · have hf := if_n c3 hf
    refine lv_iload_n hx hb dX5_pulled_7 rfl (lv_at hl 2 rfl) ?_
    obtain ⟨r4, hc5, hf⟩ := bd_inv hf
    refine xcS (As := [.int k]) (rest := []) (ws' := [(xa, .inr (5, [.ref ta, .ref fa, .ref da, .ref na, .ref ga, .ref xp, .ref xs, .ref xi, .ref xh, .int np, .int un])), (fa, .inr (0, [.int fst, .ref fb, .int fwy, .ref fc, .int fmk, .int fwt])), (fb, .inl (cI, 24, .inl fvl)), (fc, .inl (cI, 84, .inl fpt)), (na, .inr (2, [.ref nla, .ref nua, .ref nn, .int ntr])), (nla, .inr (1, [.int nlst, .int nlla, .int nlbw, .int nlbf, .int nlbd, .ref nlb, .ref nlc])), (nlb, .inl (cF, 6, .inr (.inr (.inl nlsh)))), (nlc, .inl (cF, 6, .inr (.inr (.inl nlsb)))), (nua, .inr (1, [.int nust, .int nula, .int nubw, .int nubf, .int nubd, .ref nub, .ref nuc])), (nub, .inl (cF, 6, .inr (.inr (.inl nush)))), (nuc, .inl (cF, 6, .inr (.inr (.inl nusb)))), (nn, .inl (cI, 3, .inl nnm)), (ga, .inr (2, [.ref gla, .ref gua, .ref gn, .int gtr])), (gla, .inr (1, [.int glst, .int glla, .int glbw, .int glbf, .int glbd, .ref glb, .ref glc])), (glb, .inl (cF, 6, .inr (.inr (.inl glsh)))), (glc, .inl (cF, 6, .inr (.inr (.inl glsb)))), (gua, .inr (1, [.int gust, .int gula, .int gubw, .int gubf, .int gubd, .ref gub, .ref guc])), (gub, .inl (cF, 6, .inr (.inr (.inl gush)))), (guc, .inl (cF, 6, .inr (.inr (.inl gusb)))), (gn, .inl (cI, 3, .inl gnm))]) ⟨hx, hb, hml, hown, hts⟩ (c_X5_isTrigger l D B adK adV cC cF cI cZ cM cS k  r4 hc5) (va_cwS 1 hts gX5_pulled_X5_isTrigger rfl rfl rfl (by decide +kernel) ⟨Nat.le_of_ble_eq_true rfl, Nat.le_of_ble_eq_true rfl⟩) hK hP hD hS hB hE [] rfl rfl rfl rfl rfl hl.1 rfl (Nat.le_of_ble_eq_true rfl) dX5_pulled_8 ⟨Nat.le_of_ble_eq_true rfl, Nat.le_of_ble_eq_true rfl⟩ (fun H locs hP hD hS => ?_)
    refine W.eq (g2 := F0 m 11 ls [.int r4]) rfl ?_
    refine lv_if_ne (tgt := 17) hx hb dX5_pulled_11 (by decide) (fun c6 => ?_) (fun c6 => ?_)
    · have hf := if_n c6 hf
      refine lv_aload_n hx hb dX5_pulled_17 rfl (lv_at hl 0 rfl) ?_
      refine va_get (D := D) (ci := 5) (v := .ref fa) (C := RX5) (T := TX5) (N := 11) hx hb hts w0 hown hK hP 0 rfl rfl 1 (by decide) w1 (fun _ h9 => h9) rfl dX5_pulled_18 ?_
      refine va_getN (D := D) (ci := 0) (v := .int fst) (C := RX0) (T := TX0) (N := 6) hx hb hts w2 hown hK hP 1 rfl rfl 0 (by decide) w3 (fun _ h9 => h9) rfl dX5_pulled_21 ?_
      refine lv_if_eq (tgt := 38) hx hb dX5_pulled_24 (by decide) (fun c7 => ?_) (fun c7 => ?_)
      · have hf := if_p c7 hf
        refine lv_bipush (v := (-4)) hx hb dX5_pulled_38 (by decide) ?_
        have h1 := Option.some.inj hf
        subst h1
        rw [hQ]
        exact W.iret (v := (-4)) hx hb hr (fun t ht hW => qEnd hP hS ht) hS.2.2 dX5_pulled_40
      · have hf := if_n c7 hf
        refine lv_aload_n hx hb dX5_pulled_27 rfl (lv_at hl 0 rfl) ?_
        refine va_get (D := D) (ci := 5) (v := .ref na) (C := RX5) (T := TX5) (N := 11) hx hb hts w0 hown hK hP 0 rfl rfl 3 (by decide) w4 (fun _ h9 => h9) rfl dX5_pulled_28 ?_
        refine lv_iload_n hx hb dX5_pulled_31 rfl (lv_at hl 2 rfl) ?_
        obtain ⟨r8, hc9, hf⟩ := bd_inv hf
        refine xcV (As := [.int k]) (rest := []) (ws' := [(xa, .inr (5, [.ref ta, .ref fa, .ref da, .ref na, .ref ga, .ref xp, .ref xs, .ref xi, .ref xh, .int np, .int un])), (fa, .inr (0, [.int fst, .ref fb, .int fwy, .ref fc, .int fmk, .int fwt])), (fb, .inl (cI, 24, .inl fvl)), (fc, .inl (cI, 84, .inl fpt)), (na, .inr (2, [.ref nla, .ref nua, .ref nn, .int ntr])), (nla, .inr (1, [.int nlst, .int nlla, .int nlbw, .int nlbf, .int nlbd, .ref nlb, .ref nlc])), (nlb, .inl (cF, 6, .inr (.inr (.inl nlsh)))), (nlc, .inl (cF, 6, .inr (.inr (.inl nlsb)))), (nua, .inr (1, [.int nust, .int nula, .int nubw, .int nubf, .int nubd, .ref nub, .ref nuc])), (nub, .inl (cF, 6, .inr (.inr (.inl nush)))), (nuc, .inl (cF, 6, .inr (.inr (.inl nusb)))), (nn, .inl (cI, 3, .inl nnm)), (ga, .inr (2, [.ref gla, .ref gua, .ref gn, .int gtr])), (gla, .inr (1, [.int glst, .int glla, .int glbw, .int glbf, .int glbd, .ref glb, .ref glc])), (glb, .inl (cF, 6, .inr (.inr (.inl glsh)))), (glc, .inl (cF, 6, .inr (.inr (.inl glsb)))), (gua, .inr (1, [.int gust, .int gula, .int gubw, .int gubf, .int gubd, .ref gub, .ref guc])), (gub, .inl (cF, 6, .inr (.inr (.inl gush)))), (guc, .inl (cF, 6, .inr (.inr (.inl gusb)))), (gn, .inl (cI, 3, .inl gnm))]) ⟨hx, hb, hml, hown, hts⟩ (c_X2_isTriggered l D B adK adV cC cF cI cZ cM cS na nla nua nn ntr nnm k  r8 hc9) (cwV 1 hts gX5_pulled_X2_isTriggered rfl rfl rfl (by decide +kernel) ⟨Nat.le_of_ble_eq_true rfl, Nat.le_of_ble_eq_true rfl⟩) (va_recv hK hP (ci := 2) (q0 := 4) rfl rfl) hK hP hD hS hB hE [4, 11] rfl rfl rfl rfl rfl hl.1 rfl (Nat.le_of_ble_eq_true rfl) dX5_pulled_32 ⟨Nat.le_of_ble_eq_true rfl, Nat.le_of_ble_eq_true rfl⟩ (fun H locs hP hD hS => ?_)
        refine W.eq (g2 := F0 m 35 ls [.int r8]) rfl ?_
        refine lv_if_eq (tgt := 41) hx hb dX5_pulled_35 (by decide) (fun c10 => ?_) (fun c10 => ?_)
        · have hf := if_p c10 hf
          refine lv_aload_n hx hb dX5_pulled_41 rfl (lv_at hl 0 rfl) ?_
          refine va_get (D := D) (ci := 5) (v := .ref ga) (C := RX5) (T := TX5) (N := 11) hx hb hts w0 hown hK hP 0 rfl rfl 4 (by decide) w5 (fun _ h9 => h9) rfl dX5_pulled_42 ?_
          refine lv_aload_n hx hb dX5_pulled_45 rfl (lv_at hl 0 rfl) ?_
          refine va_get (D := D) (ci := 5) (v := .ref na) (C := RX5) (T := TX5) (N := 11) hx hb hts w0 hown hK hP 0 rfl rfl 3 (by decide) w4 (fun _ h9 => h9) rfl dX5_pulled_46 ?_
          obtain ⟨⟨o11, o12, o13, o14, o15, o16, o17, o18, o19, o20, o21, o22, o23, o24, o25, o26⟩, hc27, hf⟩ := bd_inv hf
          refine xcV (As := [.ref na]) (rest := []) (ws' := [(xa, .inr (5, [.ref ta, .ref fa, .ref da, .ref na, .ref ga, .ref xp, .ref xs, .ref xi, .ref xh, .int np, .int un])), (fa, .inr (0, [.int fst, .ref fb, .int fwy, .ref fc, .int fmk, .int fwt])), (fb, .inl (cI, 24, .inl fvl)), (fc, .inl (cI, 84, .inl fpt)), (na, .inr (2, [.ref nla, .ref nua, .ref nn, .int ntr])), (nla, .inr (1, [.int nlst, .int nlla, .int nlbw, .int nlbf, .int nlbd, .ref nlb, .ref nlc])), (nlb, .inl (cF, 6, .inr (.inr (.inl nlsh)))), (nlc, .inl (cF, 6, .inr (.inr (.inl nlsb)))), (nua, .inr (1, [.int nust, .int nula, .int nubw, .int nubf, .int nubd, .ref nub, .ref nuc])), (nub, .inl (cF, 6, .inr (.inr (.inl nush)))), (nuc, .inl (cF, 6, .inr (.inr (.inl nusb)))), (nn, .inl (cI, 3, .inl nnm)), (ga, .inr (2, [.ref gla, .ref gua, .ref gn, .int o16])), (gla, .inr (1, [.int o17, .int o18, .int o19, .int o20, .int o21, .ref glb, .ref glc])), (glb, .inl (cF, 6, .inr (.inr (.inl o11)))), (glc, .inl (cF, 6, .inr (.inr (.inl o12)))), (gua, .inr (1, [.int o22, .int o23, .int o24, .int o25, .int o26, .ref gub, .ref guc])), (gub, .inl (cF, 6, .inr (.inr (.inl o13)))), (guc, .inl (cF, 6, .inr (.inr (.inl o14)))), (gn, .inl (cI, 3, .inl o15))]) ⟨hx, hb, hml, hown, hts⟩ (c_X2_copyFrom l D B adK adV cC cF cI cZ cM cS ga gla gua gn gtr glst glla glbw glbf glbd glb glc glsh glsb gust gula gubw gubf gubd gub guc gush gusb gnm na nla nua nn ntr nlst nlla nlbw nlbf nlbd nlb nlc nlsh nlsb nust nula nubw nubf nubd nub nuc nush nusb nnm  (o11, o12, o13, o14, o15, o16, o17, o18, o19, o20, o21, o22, o23, o24, o25, o26) hc27) (cwV 1 hts gX5_pulled_X2_copyFrom rfl rfl rfl (by decide +kernel) ⟨Nat.le_of_ble_eq_true rfl, Nat.le_of_ble_eq_true rfl⟩) (va_recv hK hP (ci := 2) (q0 := 12) rfl rfl) hK hP hD hS hB hE [12, 13, 14, 15, 16, 17, 18, 19, 4, 5, 6, 7, 8, 9, 10, 11] rfl rfl rfl rfl rfl hl.1 rfl (Nat.le_of_ble_eq_true rfl) dX5_pulled_49 ⟨Nat.le_of_ble_eq_true rfl, Nat.le_of_ble_eq_true rfl⟩ (fun H locs hP hD hS => ?_)
          refine W.eq (g2 := F0 m 52 ls []) rfl ?_
          refine lv_aload_n hx hb dX5_pulled_52 rfl (lv_at hl 0 rfl) ?_
          refine va_get (D := D) (ci := 5) (v := .ref ga) (C := RX5) (T := TX5) (N := 11) hx hb hts w0 hown hK hP 0 rfl rfl 4 (by decide) w5 (fun _ h9 => h9) rfl dX5_pulled_53 ?_
          refine lv_iload_n hx hb dX5_pulled_56 rfl (lv_at hl 2 rfl) ?_
          obtain ⟨o28, hc29, hf⟩ := bd_inv hf
          refine xcV (As := [.int k]) (rest := []) (ws' := [(xa, .inr (5, [.ref ta, .ref fa, .ref da, .ref na, .ref ga, .ref xp, .ref xs, .ref xi, .ref xh, .int np, .int un])), (fa, .inr (0, [.int fst, .ref fb, .int fwy, .ref fc, .int fmk, .int fwt])), (fb, .inl (cI, 24, .inl fvl)), (fc, .inl (cI, 84, .inl fpt)), (na, .inr (2, [.ref nla, .ref nua, .ref nn, .int ntr])), (nla, .inr (1, [.int nlst, .int nlla, .int nlbw, .int nlbf, .int nlbd, .ref nlb, .ref nlc])), (nlb, .inl (cF, 6, .inr (.inr (.inl nlsh)))), (nlc, .inl (cF, 6, .inr (.inr (.inl nlsb)))), (nua, .inr (1, [.int nust, .int nula, .int nubw, .int nubf, .int nubd, .ref nub, .ref nuc])), (nub, .inl (cF, 6, .inr (.inr (.inl nush)))), (nuc, .inl (cF, 6, .inr (.inr (.inl nusb)))), (nn, .inl (cI, 3, .inl nnm)), (ga, .inr (2, [.ref gla, .ref gua, .ref gn, .int o28])), (gla, .inr (1, [.int o17, .int o18, .int o19, .int o20, .int o21, .ref glb, .ref glc])), (glb, .inl (cF, 6, .inr (.inr (.inl o11)))), (glc, .inl (cF, 6, .inr (.inr (.inl o12)))), (gua, .inr (1, [.int o22, .int o23, .int o24, .int o25, .int o26, .ref gub, .ref guc])), (gub, .inl (cF, 6, .inr (.inr (.inl o13)))), (guc, .inl (cF, 6, .inr (.inr (.inl o14)))), (gn, .inl (cI, 3, .inl o15))]) ⟨hx, hb, hml, hown, hts⟩ (c_X2_trigger l D B adK adV cC cF cI cZ cM cS ga gla gua gn o16 o15 k  o28 hc29) (cwV 1 hts gX5_pulled_X2_trigger rfl rfl rfl (by decide +kernel) ⟨Nat.le_of_ble_eq_true rfl, Nat.le_of_ble_eq_true rfl⟩) (va_recv hK hP (ci := 2) (q0 := 12) rfl rfl) hK hP hD hS hB hE [12, 19] rfl rfl rfl rfl rfl hl.1 rfl (Nat.le_of_ble_eq_true rfl) dX5_pulled_57 ⟨Nat.le_of_ble_eq_true rfl, Nat.le_of_ble_eq_true rfl⟩ (fun H locs hP hD hS => ?_)
          refine W.eq (g2 := F0 m 60 ls []) rfl ?_
          refine lv_aload_n hx hb dX5_pulled_60 rfl (lv_at hl 0 rfl) ?_
          refine va_get (D := D) (ci := 5) (v := .ref ga) (C := RX5) (T := TX5) (N := 11) hx hb hts w0 hown hK hP 0 rfl rfl 4 (by decide) w5 (fun _ h9 => h9) rfl dX5_pulled_61 ?_
          refine lv_aload_n hx hb dX5_pulled_64 rfl (lv_at hl 0 rfl) ?_
          refine va_get (D := D) (ci := 5) (v := .ref fa) (C := RX5) (T := TX5) (N := 11) hx hb hts w0 hown hK hP 0 rfl rfl 1 (by decide) w1 (fun _ h9 => h9) rfl dX5_pulled_65 ?_
          obtain ⟨⟨o30, o31, o32, o33, o34, o35, o36, o37, o38, o39, o40, o41, o42, o43, o44⟩, hc45, hf⟩ := bd_inv hf
          refine xcV (As := [.ref fa]) (rest := []) (ws' := [(xa, .inr (5, [.ref ta, .ref fa, .ref da, .ref na, .ref ga, .ref xp, .ref xs, .ref xi, .ref xh, .int np, .int un])), (fa, .inr (0, [.int fst, .ref fb, .int fwy, .ref fc, .int fmk, .int fwt])), (fb, .inl (cI, 24, .inl fvl)), (fc, .inl (cI, 84, .inl fpt)), (na, .inr (2, [.ref nla, .ref nua, .ref nn, .int ntr])), (nla, .inr (1, [.int nlst, .int nlla, .int nlbw, .int nlbf, .int nlbd, .ref nlb, .ref nlc])), (nlb, .inl (cF, 6, .inr (.inr (.inl nlsh)))), (nlc, .inl (cF, 6, .inr (.inr (.inl nlsb)))), (nua, .inr (1, [.int nust, .int nula, .int nubw, .int nubf, .int nubd, .ref nub, .ref nuc])), (nub, .inl (cF, 6, .inr (.inr (.inl nush)))), (nuc, .inl (cF, 6, .inr (.inr (.inl nusb)))), (nn, .inl (cI, 3, .inl nnm)), (ga, .inr (2, [.ref gla, .ref gua, .ref gn, .int o34])), (gla, .inr (1, [.int o35, .int o36, .int o37, .int o38, .int o39, .ref glb, .ref glc])), (glb, .inl (cF, 6, .inr (.inr (.inl o30)))), (glc, .inl (cF, 6, .inr (.inr (.inl o31)))), (gua, .inr (1, [.int o40, .int o41, .int o42, .int o43, .int o44, .ref gub, .ref guc])), (gub, .inl (cF, 6, .inr (.inr (.inl o32)))), (guc, .inl (cF, 6, .inr (.inr (.inl o33)))), (gn, .inl (cI, 3, .inl o15))]) ⟨hx, hb, hml, hown, hts⟩ (c_X2_goOn l D B adK adV cC cF cI cZ cM cS ga gla gua gn o28 o17 o18 o19 o20 o21 glb glc o11 o12 o22 o23 o24 o25 o26 gub guc o13 o14 o15 fa fst fb fwy fc fmk fwt fvl fpt  (o30, o31, o32, o33, o34, o35, o36, o37, o38, o39, o40, o41, o42, o43, o44) hc45) (cwV 1 hts gX5_pulled_X2_goOn rfl rfl rfl (by decide +kernel) ⟨Nat.le_of_ble_eq_true rfl, Nat.le_of_ble_eq_true rfl⟩) (va_recv hK hP (ci := 2) (q0 := 12) rfl rfl) hK hP hD hS hB hE [12, 13, 14, 15, 16, 17, 18, 19, 1, 2, 3] rfl rfl rfl rfl rfl hl.1 rfl (Nat.le_of_ble_eq_true rfl) dX5_pulled_68 ⟨Nat.le_of_ble_eq_true rfl, Nat.le_of_ble_eq_true rfl⟩ (fun H locs hP hD hS => ?_)
          refine W.eq (g2 := F0 m 71 ls []) rfl ?_
          refine lv_aload_n hx hb dX5_pulled_71 rfl (lv_at hl 0 rfl) ?_
          refine va_get (D := D) (ci := 5) (v := .ref ga) (C := RX5) (T := TX5) (N := 11) hx hb hts w0 hown hK hP 0 rfl rfl 4 (by decide) w5 (fun _ h9 => h9) rfl dX5_pulled_72 ?_
          refine lv_iload_n hx hb dX5_pulled_75 rfl (lv_at hl 1 rfl) ?_
          by_cases c46 : i = 0
          · have hf := if_p c46 hf
            refine W.eq (g2 := F0 m 76 ls [.int 0, .ref ga]) (by rw [c46]) ?_
            obtain ⟨_, hc47, hf⟩ := bd_inv hf
            refine xcV (As := [.int 0]) (rest := []) (ws' := [(xa, .inr (5, [.ref ta, .ref fa, .ref da, .ref na, .ref ga, .ref xp, .ref xs, .ref xi, .ref xh, .int np, .int un])), (fa, .inr (0, [.int fst, .ref fb, .int fwy, .ref fc, .int fmk, .int fwt])), (fb, .inl (cI, 24, .inl fvl)), (fc, .inl (cI, 84, .inl fpt)), (na, .inr (2, [.ref nla, .ref nua, .ref nn, .int ntr])), (nla, .inr (1, [.int nlst, .int nlla, .int nlbw, .int nlbf, .int nlbd, .ref nlb, .ref nlc])), (nlb, .inl (cF, 6, .inr (.inr (.inl nlsh)))), (nlc, .inl (cF, 6, .inr (.inr (.inl nlsb)))), (nua, .inr (1, [.int nust, .int nula, .int nubw, .int nubf, .int nubd, .ref nub, .ref nuc])), (nub, .inl (cF, 6, .inr (.inr (.inl nush)))), (nuc, .inl (cF, 6, .inr (.inr (.inl nusb)))), (nn, .inl (cI, 3, .inl nnm)), (ga, .inr (2, [.ref gla, .ref gua, .ref gn, .int o34])), (gla, .inr (1, [.int o35, .int o36, .int o37, .int o38, .int o39, .ref glb, .ref glc])), (glb, .inl (cF, 6, .inr (.inr (.inl o30)))), (glc, .inl (cF, 6, .inr (.inr (.inl o31)))), (gua, .inr (1, [.int o40, .int o41, .int o42, .int o43, .int o44, .ref gub, .ref guc])), (gub, .inl (cF, 6, .inr (.inr (.inl o32)))), (guc, .inl (cF, 6, .inr (.inr (.inl o33)))), (gn, .inl (cI, 3, .inl o15))]) ⟨hx, hb, hml, hown, hts⟩ (c_X2_layerAt_0 l D B adK adV cC cF cI cZ cM cS ga gla gua gn o34 o15   hc47) (cwV 1 hts gX5_pulled_X2_layerAt rfl rfl rfl (by decide +kernel) ⟨Nat.le_of_ble_eq_true rfl, Nat.le_of_ble_eq_true rfl⟩) (va_recv hK hP (ci := 2) (q0 := 12) rfl rfl) hK hP hD hS hB hE [12, 19] rfl rfl rfl rfl rfl hl.1 rfl (Nat.le_of_ble_eq_true rfl) dX5_pulled_76 ⟨Nat.le_of_ble_eq_true rfl, Nat.le_of_ble_eq_true rfl⟩ (fun H locs hP hD hS => ?_)
            refine W.eq (g2 := F0 m 79 ls [.ref gla]) rfl ?_
            refine va_getN (D := D) (ci := 1) (v := .int o35) (C := RX1) (T := TX1) (N := 7) hx hb hts w6 hown hK hP 13 rfl rfl 0 (by decide) w7 (fun _ h9 => h9) rfl dX5_pulled_79 ?_
            have h1 := Option.some.inj hf
            subst h1
            rw [hQ]
            exact W.iret (v := o35) hx hb hr (fun t ht hW => qEnd hP hS ht) hS.2.2 dX5_pulled_82
          · have hf := if_n c46 hf
            by_cases c48 : i = 1
            · have hf := if_p c48 hf
              refine W.eq (g2 := F0 m 76 ls [.int 1, .ref ga]) (by rw [c48]) ?_
              obtain ⟨_, hc49, hf⟩ := bd_inv hf
              refine xcV (As := [.int 1]) (rest := []) (ws' := [(xa, .inr (5, [.ref ta, .ref fa, .ref da, .ref na, .ref ga, .ref xp, .ref xs, .ref xi, .ref xh, .int np, .int un])), (fa, .inr (0, [.int fst, .ref fb, .int fwy, .ref fc, .int fmk, .int fwt])), (fb, .inl (cI, 24, .inl fvl)), (fc, .inl (cI, 84, .inl fpt)), (na, .inr (2, [.ref nla, .ref nua, .ref nn, .int ntr])), (nla, .inr (1, [.int nlst, .int nlla, .int nlbw, .int nlbf, .int nlbd, .ref nlb, .ref nlc])), (nlb, .inl (cF, 6, .inr (.inr (.inl nlsh)))), (nlc, .inl (cF, 6, .inr (.inr (.inl nlsb)))), (nua, .inr (1, [.int nust, .int nula, .int nubw, .int nubf, .int nubd, .ref nub, .ref nuc])), (nub, .inl (cF, 6, .inr (.inr (.inl nush)))), (nuc, .inl (cF, 6, .inr (.inr (.inl nusb)))), (nn, .inl (cI, 3, .inl nnm)), (ga, .inr (2, [.ref gla, .ref gua, .ref gn, .int o34])), (gla, .inr (1, [.int o35, .int o36, .int o37, .int o38, .int o39, .ref glb, .ref glc])), (glb, .inl (cF, 6, .inr (.inr (.inl o30)))), (glc, .inl (cF, 6, .inr (.inr (.inl o31)))), (gua, .inr (1, [.int o40, .int o41, .int o42, .int o43, .int o44, .ref gub, .ref guc])), (gub, .inl (cF, 6, .inr (.inr (.inl o32)))), (guc, .inl (cF, 6, .inr (.inr (.inl o33)))), (gn, .inl (cI, 3, .inl o15))]) ⟨hx, hb, hml, hown, hts⟩ (c_X2_layerAt_1 l D B adK adV cC cF cI cZ cM cS ga gla gua gn o34 o15   hc49) (cwV 1 hts gX5_pulled_X2_layerAt rfl rfl rfl (by decide +kernel) ⟨Nat.le_of_ble_eq_true rfl, Nat.le_of_ble_eq_true rfl⟩) (va_recv hK hP (ci := 2) (q0 := 12) rfl rfl) hK hP hD hS hB hE [12, 19] rfl rfl rfl rfl rfl hl.1 rfl (Nat.le_of_ble_eq_true rfl) dX5_pulled_76 ⟨Nat.le_of_ble_eq_true rfl, Nat.le_of_ble_eq_true rfl⟩ (fun H locs hP hD hS => ?_)
              refine W.eq (g2 := F0 m 79 ls [.ref gua]) rfl ?_
              refine va_getN (D := D) (ci := 1) (v := .int o40) (C := RX1) (T := TX1) (N := 7) hx hb hts w6 hown hK hP 16 rfl rfl 0 (by decide) w7 (fun _ h9 => h9) rfl dX5_pulled_79 ?_
              have h1 := Option.some.inj hf
              subst h1
              rw [hQ]
              exact W.iret (v := o40) hx hb hr (fun t ht hW => qEnd hP hS ht) hS.2.2 dX5_pulled_82
            · have hf := if_n c48 hf
              cases hf
        · have hf := if_n c10 hf
          refine lv_bipush (v := (-4)) hx hb dX5_pulled_38 (by decide) ?_
          have h1 := Option.some.inj hf
          subst h1
          rw [hQ]
          exact W.iret (v := (-4)) hx hb hr (fun t ht hW => qEnd hP hS ht) hS.2.2 dX5_pulled_40
    · have hf := if_p c6 hf
      refine lv_bipush (v := (-2)) hx hb dX5_pulled_14 (by decide) ?_
      have h1 := Option.some.inj hf
      subst h1
      rw [hQ]
      exact W.iret (v := (-2)) hx hb hr (fun t ht hW => qEnd hP hS ht) hS.2.2 dX5_pulled_16
