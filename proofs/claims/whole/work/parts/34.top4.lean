set_option maxRecDepth 100000 in
set_option maxHeartbeats 4000000 in
theorem c_X5_shelf (l : Launch) (D : va_G) (B : Nat) (adK adV : Nat → Nat) (cC cF cI cZ cM cS : ClassId) (xa : Nat) (ta : Nat) (fa : Nat) (da : Nat) (na : Nat) (ga : Nat) (xp : Nat) (xs : Nat) (xi : Nat) (xh : Nat) (np : Int32) (un : Int32) (hf0 : Nat → Option Nat) (sa : Nat) (sms : Int32) (smf : Int32) (spl : Int32) (sb : Nat) (smk : Nat → Int32) (i : Int32) (so : Int32) (cnt : Int32) (zz : Int32 × (Nat → Int32) × Int32 × Int32 × Int32) (hf : f_X5_shelf hf0 sa sms smf spl smk i so cnt = some zz) : Ct l yX5_shelf wsX5_shelf { frames := 2, cells := 0, slots := 0, locals := 45 } D B adK adV (tysX cC cF cI cZ cM cS) [.ref xa, .int i, .int so, .int cnt] [(xa, .inr (5, [.ref ta, .ref fa, .ref da, .ref na, .ref ga, .ref xp, .ref xs, .ref xi, .ref xh, .int np, .int un])), (xh, .inl (cS, 3, .inr (.inr (.inr (.inr hf0))))), (sa, .inr (3, [.int sms, .int smf, .int spl, .ref sb])), (sb, .inl (cI, 8, .inl smk))] [(xa, .inr (5, [.ref ta, .ref fa, .ref da, .ref na, .ref ga, .ref xp, .ref xs, .ref xi, .ref xh, .int np, .int un])), (xh, .inl (cS, 3, .inr (.inr (.inr (.inr hf0))))), (sa, .inr (3, [.int zz.2.2.1, .int zz.2.2.2.1, .int zz.2.2.2.2, .ref sb])), (sb, .inl (cI, 8, .inl zz.2.1))] (some (.int zz.1)) := by
  refine Ct.ofW (cc := cX5_shelf) (maxL := 4) (ret := (some .int)) (by decide) rfl (Nat.le_of_ble_eq_true rfl) ?_
  intro p e s m args below meth c hx hb hr hml hts hown hlocks hnm hK hE A Q hQ hB H locs ls hP hD hS hl
  have hl : lv_has ls 4 [(0, .ref xa), (1, .int i), (2, .int so), (3, .int cnt)] := hl
  have w0 : ∀ w ∈ u_ws RX5 TX5 11, w ∈ wsX5_shelf := by decide +kernel
  have w1 := hts (.fieldLink RX5 49 "MotionStates" "shelves" "[LMotionStates$Shelf;") (by decide +kernel)
  unfold f_X5_shelf at hf
  refine lv_iload_n hx hb dX5_shelf_0 rfl (lv_at hl 1 rfl) ?_
  obtain ⟨r1, hc2, hf⟩ := bd_inv hf
  refine xcS (As := [.int i]) (rest := []) (ws' := [(xa, .inr (5, [.ref ta, .ref fa, .ref da, .ref na, .ref ga, .ref xp, .ref xs, .ref xi, .ref xh, .int np, .int un])), (xh, .inl (cS, 3, .inr (.inr (.inr (.inr hf0))))), (sa, .inr (3, [.int sms, .int smf, .int spl, .ref sb])), (sb, .inl (cI, 8, .inl smk))]) ⟨hx, hb, hml, hown, hts⟩ (c_X5_isShelf l D B adK adV cC cF cI cZ cM cS i  r1 hc2) (va_cwS 1 hts gX5_shelf_X5_isShelf rfl rfl rfl (by decide +kernel) ⟨Nat.le_of_ble_eq_true rfl, Nat.le_of_ble_eq_true rfl⟩) hK hP hD hS hB hE [] rfl rfl rfl rfl rfl hl.1 rfl (Nat.le_of_ble_eq_true rfl) dX5_shelf_1 ⟨Nat.le_of_ble_eq_true rfl, Nat.le_of_ble_eq_true rfl⟩ (fun H locs hP hD hS => ?_)
  refine W.eq (g2 := F0 m 4 ls [.int r1]) rfl ?_
  refine lv_if_ne (tgt := 10) hx hb dX5_shelf_4 (by decide) (fun c3 => ?_) (fun c3 => ?_)
  · have hf := if_n c3 hf
    refine lv_iload_n hx hb dX5_shelf_10 rfl (lv_at hl 2 rfl) ?_
    refine lv_if_lt (tgt := 25) hx hb dX5_shelf_11 (by decide) (fun c4 => ?_) (fun c4 => ?_)
    · have hf := if_p c4 hf
      refine lv_bipush (v := (-3)) hx hb dX5_shelf_25 (by decide) ?_
      have h1 := Option.some.inj hf
      subst h1
      rw [hQ]
      exact W.iret (v := (-3)) hx hb hr (fun t ht hW => qEnd hP hS ht) hS.2.2 dX5_shelf_27
    · have hf := if_n c4 hf
      refine lv_iload_n hx hb dX5_shelf_14 rfl (lv_at hl 2 rfl) ?_
      refine lv_iconst (v := 2) hx hb dX5_shelf_15 (by decide) ?_
      refine lv_icmp_gt (tgt := 25) hx hb dX5_shelf_16 (by decide) (fun c5 => ?_) (fun c5 => ?_)
      · have hf := if_p c5 hf
        refine lv_bipush (v := (-3)) hx hb dX5_shelf_25 (by decide) ?_
        have h1 := Option.some.inj hf
        subst h1
        rw [hQ]
        exact W.iret (v := (-3)) hx hb hr (fun t ht hW => qEnd hP hS ht) hS.2.2 dX5_shelf_27
      · have hf := if_n c5 hf
        refine lv_iload_n hx hb dX5_shelf_19 rfl (lv_at hl 3 rfl) ?_
        refine lv_bipush (v := 8) hx hb dX5_shelf_20 (by decide) ?_
        refine lv_icmp_le (tgt := 28) hx hb dX5_shelf_22 (by decide) (fun c6 => ?_) (fun c6 => ?_)
        · have hf := if_p c6 hf
          refine lv_iload_n hx hb dX5_shelf_28 rfl (lv_at hl 3 rfl) ?_
          refine lv_if_ge (tgt := 35) hx hb dX5_shelf_29 (by decide) (fun c7 => ?_) (fun c7 => ?_)
          · have hf := if_p c7 hf
            refine lv_aload_n hx hb dX5_shelf_35 rfl (lv_at hl 0 rfl) ?_
            refine va_get (D := D) (ci := 5) (v := .ref xh) (C := RX5) (T := TX5) (N := 11) hx hb hts w0 hown hK hP 0 rfl rfl 8 (by decide) w1 (fun _ h9 => h9) rfl dX5_shelf_36 ?_
            refine lv_iload_n hx hb dX5_shelf_39 rfl (lv_at hl 1 rfl) ?_
            obtain ⟨g8, hf⟩ := gd_inv hf
            obtain ⟨g9, hf⟩ := gd_inv hf
            refine va_aldq hx hb hK hP 1 5 rfl rfl g8 dX5_shelf_40 ?_
            refine W.eq (g2 := F0 m 41 ls (.ref sa :: [])) (by rw [g9]; rfl) ?_
            refine lv_iload_n hx hb dX5_shelf_41 rfl (lv_at hl 2 rfl) ?_
            refine lv_iload_n hx hb dX5_shelf_42 rfl (lv_at hl 3 rfl) ?_
            obtain ⟨⟨o10, o11, o12, o13⟩, hc14, hf⟩ := bd_inv hf
            refine xcV (As := [.int so, .int cnt]) (rest := []) (ws' := [(xa, .inr (5, [.ref ta, .ref fa, .ref da, .ref na, .ref ga, .ref xp, .ref xs, .ref xi, .ref xh, .int np, .int un])), (xh, .inl (cS, 3, .inr (.inr (.inr (.inr hf0))))), (sa, .inr (3, [.int o11, .int o12, .int o13, .ref sb])), (sb, .inl (cI, 8, .inl o10))]) ⟨hx, hb, hml, hown, hts⟩ (c_X3_makeNew l D B adK adV cC cF cI cZ cM cS sa sms smf spl sb smk so cnt  (o10, o11, o12, o13) hc14) (cwV 2 hts gX5_shelf_X3_makeNew rfl rfl rfl (by decide +kernel) ⟨Nat.le_of_ble_eq_true rfl, Nat.le_of_ble_eq_true rfl⟩) (va_recv hK hP (ci := 3) (q0 := 2) rfl rfl) hK hP hD hS hB hE [2, 3] rfl rfl rfl rfl rfl hl.1 rfl (Nat.le_of_ble_eq_true rfl) dX5_shelf_43 ⟨Nat.le_of_ble_eq_true rfl, Nat.le_of_ble_eq_true rfl⟩ (fun H locs hP hD hS => ?_)
            refine W.eq (g2 := F0 m 46 ls []) rfl ?_
            refine lv_iload_n hx hb dX5_shelf_46 rfl (lv_at hl 3 rfl) ?_
            have h1 := Option.some.inj hf
            subst h1
            rw [hQ]
            exact W.iret (v := cnt) hx hb hr (fun t ht hW => qEnd hP hS ht) hS.2.2 dX5_shelf_47
          · have hf := if_n c7 hf
            refine lv_bipush (v := (-12)) hx hb dX5_shelf_32 (by decide) ?_
            have h1 := Option.some.inj hf
            subst h1
            rw [hQ]
            exact W.iret (v := (-12)) hx hb hr (fun t ht hW => qEnd hP hS ht) hS.2.2 dX5_shelf_34
        · have hf := if_n c6 hf
          refine lv_bipush (v := (-3)) hx hb dX5_shelf_25 (by decide) ?_
          have h1 := Option.some.inj hf
          subst h1
          rw [hQ]
          exact W.iret (v := (-3)) hx hb hr (fun t ht hW => qEnd hP hS ht) hS.2.2 dX5_shelf_27
  · have hf := if_p c3 hf
    refine lv_bipush (v := (-2)) hx hb dX5_shelf_7 (by decide) ?_
    have h1 := Option.some.inj hf
    subst h1
    rw [hQ]
    exact W.iret (v := (-2)) hx hb hr (fun t ht hW => qEnd hP hS ht) hS.2.2 dX5_shelf_9
set_option maxRecDepth 100000 in
set_option maxHeartbeats 4000000 in
theorem c_X5_lay (l : Launch) (D : va_G) (B : Nat) (adK adV : Nat → Nat) (cC cF cI cZ cM cS : ClassId) (xa : Nat) (ta : Nat) (fa : Nat) (da : Nat) (na : Nat) (ga : Nat) (xp : Nat) (xs : Nat) (xi : Nat) (xh : Nat) (np : Int32) (un : Int32) (hf0 : Nat → Option Nat) (sa : Nat) (sms : Int32) (smf : Int32) (spl : Int32) (sb : Nat) (smk : Nat → Int32) (i : Int32) (k : Int32) (so : Int32) (v : Int32) (zz : Int32 × (Nat → Int32)) (hf : f_X5_lay hf0 sa sms smf spl smk i k so v = some zz) : Ct l yX5_lay wsX5_lay { frames := 2, cells := 0, slots := 0, locals := 43 } D B adK adV (tysX cC cF cI cZ cM cS) [.ref xa, .int i, .int k, .int so, .int v] [(xa, .inr (5, [.ref ta, .ref fa, .ref da, .ref na, .ref ga, .ref xp, .ref xs, .ref xi, .ref xh, .int np, .int un])), (xh, .inl (cS, 3, .inr (.inr (.inr (.inr hf0))))), (sa, .inr (3, [.int sms, .int smf, .int spl, .ref sb])), (sb, .inl (cI, 8, .inl smk))] [(xa, .inr (5, [.ref ta, .ref fa, .ref da, .ref na, .ref ga, .ref xp, .ref xs, .ref xi, .ref xh, .int np, .int un])), (xh, .inl (cS, 3, .inr (.inr (.inr (.inr hf0))))), (sa, .inr (3, [.int sms, .int smf, .int spl, .ref sb])), (sb, .inl (cI, 8, .inl zz.2))] (some (.int zz.1)) := by
  refine Ct.ofW (cc := cX5_lay) (maxL := 7) (ret := (some .int)) (by decide) rfl (Nat.le_of_ble_eq_true rfl) ?_
  intro p e s m args below meth c hx hb hr hml hts hown hlocks hnm hK hE A Q hQ hB H locs ls hP hD hS hl
  have hl : lv_has ls 7 [(0, .ref xa), (1, .int i), (2, .int k), (3, .int so), (4, .int v)] := hl
  have w0 : ∀ w ∈ u_ws RX5 TX5 11, w ∈ wsX5_lay := by decide +kernel
  have w1 := hts (.fieldLink RX5 49 "MotionStates" "shelves" "[LMotionStates$Shelf;") (by decide +kernel)
  have w2 : ∀ w ∈ u_ws RX3 TX3 4, w ∈ wsX5_lay := by decide +kernel
  have w3 : (Cond.fieldLinkNest "MotionStates" 196 "MotionStates$Shelf" "marks" "[I" "MotionStates").before args s = true := va_Nw.use rfl (hE.1 ("MotionStates", 196, "MotionStates$Shelf", "marks", "[I", "MotionStates") (by decide +kernel))
  unfold f_X5_lay at hf
  refine lv_iload_n hx hb dX5_lay_0 rfl (lv_at hl 1 rfl) ?_
  obtain ⟨r1, hc2, hf⟩ := bd_inv hf
  refine xcS (As := [.int i]) (rest := []) (ws' := [(xa, .inr (5, [.ref ta, .ref fa, .ref da, .ref na, .ref ga, .ref xp, .ref xs, .ref xi, .ref xh, .int np, .int un])), (xh, .inl (cS, 3, .inr (.inr (.inr (.inr hf0))))), (sa, .inr (3, [.int sms, .int smf, .int spl, .ref sb])), (sb, .inl (cI, 8, .inl smk))]) ⟨hx, hb, hml, hown, hts⟩ (c_X5_isShelf l D B adK adV cC cF cI cZ cM cS i  r1 hc2) (va_cwS 1 hts gX5_lay_X5_isShelf rfl rfl rfl (by decide +kernel) ⟨Nat.le_of_ble_eq_true rfl, Nat.le_of_ble_eq_true rfl⟩) hK hP hD hS hB hE [] rfl rfl rfl rfl rfl hl.1 rfl (Nat.le_of_ble_eq_true rfl) dX5_lay_1 ⟨Nat.le_of_ble_eq_true rfl, Nat.le_of_ble_eq_true rfl⟩ (fun H locs hP hD hS => ?_)
  refine W.eq (g2 := F0 m 4 ls [.int r1]) rfl ?_
  refine lv_if_ne (tgt := 10) hx hb dX5_lay_4 (by decide) (fun c3 => ?_) (fun c3 => ?_)
  · have hf := if_n c3 hf
    refine lv_iload_n hx hb dX5_lay_10 rfl (lv_at hl 3 rfl) ?_
    refine lv_iconst (v := 1) hx hb dX5_lay_11 (by decide) ?_
    refine lv_icmp_lt (tgt := 33) hx hb dX5_lay_12 (by decide) (fun c4 => ?_) (fun c4 => ?_)
    · have hf := if_p c4 hf
      refine lv_bipush (v := (-3)) hx hb dX5_lay_33 (by decide) ?_
      have h1 := Option.some.inj hf
      subst h1
      rw [hQ]
      exact W.iret (v := (-3)) hx hb hr (fun t ht hW => qEnd hP hS ht) hS.2.2 dX5_lay_35
    · have hf := if_n c4 hf
      refine lv_iload_n hx hb dX5_lay_15 rfl (lv_at hl 3 rfl) ?_
      refine lv_iconst (v := 2) hx hb dX5_lay_16 (by decide) ?_
      refine lv_icmp_gt (tgt := 33) hx hb dX5_lay_17 (by decide) (fun c5 => ?_) (fun c5 => ?_)
      · have hf := if_p c5 hf
        refine lv_bipush (v := (-3)) hx hb dX5_lay_33 (by decide) ?_
        have h1 := Option.some.inj hf
        subst h1
        rw [hQ]
        exact W.iret (v := (-3)) hx hb hr (fun t ht hW => qEnd hP hS ht) hS.2.2 dX5_lay_35
      · have hf := if_n c5 hf
        refine lv_iload hx hb dX5_lay_20 (lv_at hl 4 rfl) ?_
        refine lv_if_lt (tgt := 33) hx hb dX5_lay_22 (by decide) (fun c6 => ?_) (fun c6 => ?_)
        · have hf := if_p c6 hf
          refine lv_bipush (v := (-3)) hx hb dX5_lay_33 (by decide) ?_
          have h1 := Option.some.inj hf
          subst h1
          rw [hQ]
          exact W.iret (v := (-3)) hx hb hr (fun t ht hW => qEnd hP hS ht) hS.2.2 dX5_lay_35
        · have hf := if_n c6 hf
          refine lv_iload hx hb dX5_lay_25 (lv_at hl 4 rfl) ?_
          refine lv_sipush (v := 1000) hx hb dX5_lay_27 (by decide) ?_
          refine lv_icmp_lt (tgt := 36) hx hb dX5_lay_30 (by decide) (fun c7 => ?_) (fun c7 => ?_)
          · have hf := if_p c7 hf
            refine lv_iload_n hx hb dX5_lay_36 rfl (lv_at hl 3 rfl) ?_
            refine lv_iconst (v := 1) hx hb dX5_lay_37 (by decide) ?_
            refine lv_icmp_ne (tgt := 46) hx hb dX5_lay_38 (by decide) (fun c8 => ?_) (fun c8 => ?_)
            · have hf := if_n c8 hf
              refine lv_sipush (v := 1000) hx hb dX5_lay_46 (by decide) ?_
              refine lv_iload hx hb dX5_lay_49 (lv_at hl 4 rfl) ?_
              refine lv_iadd hx hb dX5_lay_51 ?_
              refine lv_istore (lv' := [(5, .int ((1000 : Int32) + v)), (0, .ref xa), (1, .int i), (2, .int k), (3, .int so), (4, .int v)]) hx hb dX5_lay_52 hl (by decide) rfl (fun ls hl => ?_)
              refine lv_aload_n hx hb dX5_lay_54 rfl (lv_at hl 1 rfl) ?_
              refine va_get (D := D) (ci := 5) (v := .ref xh) (C := RX5) (T := TX5) (N := 11) hx hb hts w0 hown hK hP 0 rfl rfl 8 (by decide) w1 (fun _ h9 => h9) rfl dX5_lay_55 ?_
              refine lv_iload_n hx hb dX5_lay_58 rfl (lv_at hl 2 rfl) ?_
              obtain ⟨g9, hf⟩ := gd_inv hf
              obtain ⟨g10, hf⟩ := gd_inv hf
              refine va_aldq hx hb hK hP 1 5 rfl rfl g9 dX5_lay_59 ?_
              refine W.eq (g2 := F0 m 60 ls (.ref sa :: [])) (by rw [g10]; rfl) ?_
              refine lv_iload_n hx hb dX5_lay_60 rfl (lv_at hl 3 rfl) ?_
              refine lv_iload hx hb dX5_lay_61 (lv_at hl 0 rfl) ?_
              obtain ⟨r11, hc12, hf⟩ := bd_inv hf
              refine xcV (As := [.int k, .int ((1000 : Int32) + v)]) (rest := []) (ws' := [(xa, .inr (5, [.ref ta, .ref fa, .ref da, .ref na, .ref ga, .ref xp, .ref xs, .ref xi, .ref xh, .int np, .int un])), (xh, .inl (cS, 3, .inr (.inr (.inr (.inr hf0))))), (sa, .inr (3, [.int sms, .int smf, .int spl, .ref sb])), (sb, .inl (cI, 8, .inl smk))]) ⟨hx, hb, hml, hown, hts⟩ (c_X3_refusalOf l D B adK adV cC cF cI cZ cM cS sa sms smf spl sb smk k ((1000 : Int32) + v)  r11 hc12) (cwV 2 hts gX5_lay_X3_refusalOf rfl rfl rfl (by decide +kernel) ⟨Nat.le_of_ble_eq_true rfl, Nat.le_of_ble_eq_true rfl⟩) (va_recv hK hP (ci := 3) (q0 := 2) rfl rfl) hK hP hD hS hB hE [2, 3] rfl rfl rfl rfl rfl hl.1 rfl (Nat.le_of_ble_eq_true rfl) dX5_lay_63 ⟨Nat.le_of_ble_eq_true rfl, Nat.le_of_ble_eq_true rfl⟩ (fun H locs hP hD hS => ?_)
              refine W.eq (g2 := F0 m 66 ls [.int r11]) rfl ?_
              refine lv_istore (lv' := [(6, .int r11), (5, .int ((1000 : Int32) + v)), (0, .ref xa), (1, .int i), (2, .int k), (3, .int so), (4, .int v)]) hx hb dX5_lay_66 hl (by decide) rfl (fun ls hl => ?_)
              refine lv_iload hx hb dX5_lay_68 (lv_at hl 0 rfl) ?_
              refine lv_iconst (v := (-1)) hx hb dX5_lay_70 (by decide) ?_
              refine lv_icmp_eq (tgt := 77) hx hb dX5_lay_71 (by decide) (fun c13 => ?_) (fun c13 => ?_)
              · have hf := if_p c13 hf
                refine lv_aload_n hx hb dX5_lay_77 rfl (lv_at hl 2 rfl) ?_
                refine va_get (D := D) (ci := 5) (v := .ref xh) (C := RX5) (T := TX5) (N := 11) hx hb hts w0 hown hK hP 0 rfl rfl 8 (by decide) w1 (fun _ h9 => h9) rfl dX5_lay_78 ?_
                refine lv_iload_n hx hb dX5_lay_81 rfl (lv_at hl 3 rfl) ?_
                obtain ⟨g14, hf⟩ := gd_inv hf
                obtain ⟨g15, hf⟩ := gd_inv hf
                refine va_aldq hx hb hK hP 1 5 rfl rfl g14 dX5_lay_82 ?_
                refine W.eq (g2 := F0 m 83 ls (.ref sa :: [])) (by rw [g15]; rfl) ?_
                refine va_getN (D := D) (ci := 3) (v := .ref sb) (C := RX3) (T := TX3) (N := 4) hx hb hts w2 hown hK hP 2 rfl rfl 3 (by decide) w3 (fun _ h9 => h9) rfl dX5_lay_83 ?_
                refine lv_iload_n hx hb dX5_lay_86 rfl (lv_at hl 4 rfl) ?_
                refine lv_iload hx hb dX5_lay_87 (lv_at hl 1 rfl) ?_
                obtain ⟨g16, hf⟩ := gd_inv hf
                refine va_iast hx hb hK hP hD hS 3 2 rfl rfl g16 dX5_lay_89 (fun H locs hP hD hS => ?_)
                have hP : va_P D vwCl [(xa, .inr (5, [.ref ta, .ref fa, .ref da, .ref na, .ref ga, .ref xp, .ref xs, .ref xi, .ref xh, .int np, .int un])), (xh, .inl (cS, 3, .inr (.inr (.inr (.inr hf0))))), (sa, .inr (3, [.int sms, .int smf, .int spl, .ref sb])), (sb, .inl (cI, 8, .inl (upd smk k.toNatClampNeg ((1000 : Int32) + v))))] H := hP
                have hD : va_D A [(xa, .inr (5, [.ref ta, .ref fa, .ref da, .ref na, .ref ga, .ref xp, .ref xs, .ref xi, .ref xh, .int np, .int un])), (xh, .inl (cS, 3, .inr (.inr (.inr (.inr hf0))))), (sa, .inr (3, [.int sms, .int smf, .int spl, .ref sb])), (sb, .inl (cI, 8, .inl (upd smk k.toNatClampNeg ((1000 : Int32) + v))))] := hD
                refine lv_iload hx hb dX5_lay_90 (lv_at hl 6 rfl) ?_
                have h1 := Option.some.inj hf
                subst h1
                rw [hQ]
                exact W.iret (v := v) hx hb hr (fun t ht hW => qEnd hP hS ht) hS.2.2 dX5_lay_92
              · have hf := if_n c13 hf
                refine lv_iload hx hb dX5_lay_74 (lv_at hl 0 rfl) ?_
                have h1 := Option.some.inj hf
                subst h1
                rw [hQ]
                exact W.iret (v := r11) hx hb hr (fun t ht hW => qEnd hP hS ht) hS.2.2 dX5_lay_76
            · have hf := if_p c8 hf
              refine lv_iload hx hb dX5_lay_41 (lv_at hl 4 rfl) ?_
              refine lv_goto (tgt := 52) hx hb dX5_lay_43 (by decide) ?_
              refine lv_istore (lv' := [(5, .int v), (0, .ref xa), (1, .int i), (2, .int k), (3, .int so), (4, .int v)]) hx hb dX5_lay_52 hl (by decide) rfl (fun ls hl => ?_)
              refine lv_aload_n hx hb dX5_lay_54 rfl (lv_at hl 1 rfl) ?_
              refine va_get (D := D) (ci := 5) (v := .ref xh) (C := RX5) (T := TX5) (N := 11) hx hb hts w0 hown hK hP 0 rfl rfl 8 (by decide) w1 (fun _ h9 => h9) rfl dX5_lay_55 ?_
              refine lv_iload_n hx hb dX5_lay_58 rfl (lv_at hl 2 rfl) ?_
              obtain ⟨g17, hf⟩ := gd_inv hf
              obtain ⟨g18, hf⟩ := gd_inv hf
              refine va_aldq hx hb hK hP 1 5 rfl rfl g17 dX5_lay_59 ?_
              refine W.eq (g2 := F0 m 60 ls (.ref sa :: [])) (by rw [g18]; rfl) ?_
              refine lv_iload_n hx hb dX5_lay_60 rfl (lv_at hl 3 rfl) ?_
              refine lv_iload hx hb dX5_lay_61 (lv_at hl 0 rfl) ?_
              obtain ⟨r19, hc20, hf⟩ := bd_inv hf
              refine xcV (As := [.int k, .int v]) (rest := []) (ws' := [(xa, .inr (5, [.ref ta, .ref fa, .ref da, .ref na, .ref ga, .ref xp, .ref xs, .ref xi, .ref xh, .int np, .int un])), (xh, .inl (cS, 3, .inr (.inr (.inr (.inr hf0))))), (sa, .inr (3, [.int sms, .int smf, .int spl, .ref sb])), (sb, .inl (cI, 8, .inl smk))]) ⟨hx, hb, hml, hown, hts⟩ (c_X3_refusalOf l D B adK adV cC cF cI cZ cM cS sa sms smf spl sb smk k v  r19 hc20) (cwV 2 hts gX5_lay_X3_refusalOf rfl rfl rfl (by decide +kernel) ⟨Nat.le_of_ble_eq_true rfl, Nat.le_of_ble_eq_true rfl⟩) (va_recv hK hP (ci := 3) (q0 := 2) rfl rfl) hK hP hD hS hB hE [2, 3] rfl rfl rfl rfl rfl hl.1 rfl (Nat.le_of_ble_eq_true rfl) dX5_lay_63 ⟨Nat.le_of_ble_eq_true rfl, Nat.le_of_ble_eq_true rfl⟩ (fun H locs hP hD hS => ?_)
              refine W.eq (g2 := F0 m 66 ls [.int r19]) rfl ?_
              refine lv_istore (lv' := [(6, .int r19), (5, .int v), (0, .ref xa), (1, .int i), (2, .int k), (3, .int so), (4, .int v)]) hx hb dX5_lay_66 hl (by decide) rfl (fun ls hl => ?_)
              refine lv_iload hx hb dX5_lay_68 (lv_at hl 0 rfl) ?_
              refine lv_iconst (v := (-1)) hx hb dX5_lay_70 (by decide) ?_
              refine lv_icmp_eq (tgt := 77) hx hb dX5_lay_71 (by decide) (fun c21 => ?_) (fun c21 => ?_)
              · have hf := if_p c21 hf
                refine lv_aload_n hx hb dX5_lay_77 rfl (lv_at hl 2 rfl) ?_
                refine va_get (D := D) (ci := 5) (v := .ref xh) (C := RX5) (T := TX5) (N := 11) hx hb hts w0 hown hK hP 0 rfl rfl 8 (by decide) w1 (fun _ h9 => h9) rfl dX5_lay_78 ?_
                refine lv_iload_n hx hb dX5_lay_81 rfl (lv_at hl 3 rfl) ?_
                obtain ⟨g22, hf⟩ := gd_inv hf
                obtain ⟨g23, hf⟩ := gd_inv hf
                refine va_aldq hx hb hK hP 1 5 rfl rfl g22 dX5_lay_82 ?_
                refine W.eq (g2 := F0 m 83 ls (.ref sa :: [])) (by rw [g23]; rfl) ?_
                refine va_getN (D := D) (ci := 3) (v := .ref sb) (C := RX3) (T := TX3) (N := 4) hx hb hts w2 hown hK hP 2 rfl rfl 3 (by decide) w3 (fun _ h9 => h9) rfl dX5_lay_83 ?_
                refine lv_iload_n hx hb dX5_lay_86 rfl (lv_at hl 4 rfl) ?_
                refine lv_iload hx hb dX5_lay_87 (lv_at hl 1 rfl) ?_
                obtain ⟨g24, hf⟩ := gd_inv hf
                refine va_iast hx hb hK hP hD hS 3 2 rfl rfl g24 dX5_lay_89 (fun H locs hP hD hS => ?_)
                have hP : va_P D vwCl [(xa, .inr (5, [.ref ta, .ref fa, .ref da, .ref na, .ref ga, .ref xp, .ref xs, .ref xi, .ref xh, .int np, .int un])), (xh, .inl (cS, 3, .inr (.inr (.inr (.inr hf0))))), (sa, .inr (3, [.int sms, .int smf, .int spl, .ref sb])), (sb, .inl (cI, 8, .inl (upd smk k.toNatClampNeg v)))] H := hP
                have hD : va_D A [(xa, .inr (5, [.ref ta, .ref fa, .ref da, .ref na, .ref ga, .ref xp, .ref xs, .ref xi, .ref xh, .int np, .int un])), (xh, .inl (cS, 3, .inr (.inr (.inr (.inr hf0))))), (sa, .inr (3, [.int sms, .int smf, .int spl, .ref sb])), (sb, .inl (cI, 8, .inl (upd smk k.toNatClampNeg v)))] := hD
                refine lv_iload hx hb dX5_lay_90 (lv_at hl 6 rfl) ?_
                have h1 := Option.some.inj hf
                subst h1
                rw [hQ]
                exact W.iret (v := v) hx hb hr (fun t ht hW => qEnd hP hS ht) hS.2.2 dX5_lay_92
              · have hf := if_n c21 hf
                refine lv_iload hx hb dX5_lay_74 (lv_at hl 0 rfl) ?_
                have h1 := Option.some.inj hf
                subst h1
                rw [hQ]
                exact W.iret (v := r19) hx hb hr (fun t ht hW => qEnd hP hS ht) hS.2.2 dX5_lay_76
          · have hf := if_n c7 hf
            refine lv_bipush (v := (-3)) hx hb dX5_lay_33 (by decide) ?_
            have h1 := Option.some.inj hf
            subst h1
            rw [hQ]
            exact W.iret (v := (-3)) hx hb hr (fun t ht hW => qEnd hP hS ht) hS.2.2 dX5_lay_35
  · have hf := if_p c3 hf
    refine lv_bipush (v := (-2)) hx hb dX5_lay_7 (by decide) ?_
    have h1 := Option.some.inj hf
    subst h1
    rw [hQ]
    exact W.iret (v := (-2)) hx hb hr (fun t ht hW => qEnd hP hS ht) hS.2.2 dX5_lay_9
set_option maxRecDepth 100000 in
set_option maxHeartbeats 4000000 in
theorem c_X5_look (l : Launch) (D : va_G) (B : Nat) (adK adV : Nat → Nat) (cC cF cI cZ cM cS : ClassId) (xa : Nat) (ta : Nat) (fa : Nat) (da : Nat) (na : Nat) (ga : Nat) (xp : Nat) (xs : Nat) (xi : Nat) (xh : Nat) (np : Int32) (un : Int32) (hf0 : Nat → Option Nat) (sa : Nat) (sms : Int32) (smf : Int32) (spl : Int32) (sb : Nat) (smk : Nat → Int32) (i : Int32) (k : Int32) (zz : Int32) (hf : f_X5_look hf0 sa sms spl smk i k = some zz) : Ct l yX5_look wsX5_look { frames := 2, cells := 0, slots := 0, locals := 42 } D B adK adV (tysX cC cF cI cZ cM cS) [.ref xa, .int i, .int k] [(xa, .inr (5, [.ref ta, .ref fa, .ref da, .ref na, .ref ga, .ref xp, .ref xs, .ref xi, .ref xh, .int np, .int un])), (xh, .inl (cS, 3, .inr (.inr (.inr (.inr hf0))))), (sa, .inr (3, [.int sms, .int smf, .int spl, .ref sb])), (sb, .inl (cI, 8, .inl smk))] [(xa, .inr (5, [.ref ta, .ref fa, .ref da, .ref na, .ref ga, .ref xp, .ref xs, .ref xi, .ref xh, .int np, .int un])), (xh, .inl (cS, 3, .inr (.inr (.inr (.inr hf0))))), (sa, .inr (3, [.int sms, .int smf, .int spl, .ref sb])), (sb, .inl (cI, 8, .inl smk))] (some (.int zz)) := by
  refine Ct.ofW (cc := cX5_look) (maxL := 3) (ret := (some .int)) (by decide) rfl (Nat.le_of_ble_eq_true rfl) ?_
  intro p e s m args below meth c hx hb hr hml hts hown hlocks hnm hK hE A Q hQ hB H locs ls hP hD hS hl
  have hl : lv_has ls 3 [(0, .ref xa), (1, .int i), (2, .int k)] := hl
  have w0 : ∀ w ∈ u_ws RX5 TX5 11, w ∈ wsX5_look := by decide +kernel
  have w1 := hts (.fieldLink RX5 49 "MotionStates" "shelves" "[LMotionStates$Shelf;") (by decide +kernel)
  unfold f_X5_look at hf
  refine lv_iload_n hx hb dX5_look_0 rfl (lv_at hl 1 rfl) ?_
  obtain ⟨r1, hc2, hf⟩ := bd_inv hf
  refine xcS (As := [.int i]) (rest := []) (ws' := [(xa, .inr (5, [.ref ta, .ref fa, .ref da, .ref na, .ref ga, .ref xp, .ref xs, .ref xi, .ref xh, .int np, .int un])), (xh, .inl (cS, 3, .inr (.inr (.inr (.inr hf0))))), (sa, .inr (3, [.int sms, .int smf, .int spl, .ref sb])), (sb, .inl (cI, 8, .inl smk))]) ⟨hx, hb, hml, hown, hts⟩ (c_X5_isShelf l D B adK adV cC cF cI cZ cM cS i  r1 hc2) (va_cwS 1 hts gX5_look_X5_isShelf rfl rfl rfl (by decide +kernel) ⟨Nat.le_of_ble_eq_true rfl, Nat.le_of_ble_eq_true rfl⟩) hK hP hD hS hB hE [] rfl rfl rfl rfl rfl hl.1 rfl (Nat.le_of_ble_eq_true rfl) dX5_look_1 ⟨Nat.le_of_ble_eq_true rfl, Nat.le_of_ble_eq_true rfl⟩ (fun H locs hP hD hS => ?_)
  refine W.eq (g2 := F0 m 4 ls [.int r1]) rfl ?_
  refine lv_if_eq (tgt := 20) hx hb dX5_look_4 (by decide) (fun c3 => ?_) (fun c3 => ?_)
  · have hf := if_p c3 hf
    refine lv_bipush (v := (-2)) hx hb dX5_look_20 (by decide) ?_
    have h1 := Option.some.inj hf
    subst h1
    rw [hQ]
    exact W.iret (v := (-2)) hx hb hr (fun t ht hW => qEnd hP hS ht) hS.2.2 dX5_look_22
  · have hf := if_n c3 hf
    refine lv_aload_n hx hb dX5_look_7 rfl (lv_at hl 0 rfl) ?_
    refine va_get (D := D) (ci := 5) (v := .ref xh) (C := RX5) (T := TX5) (N := 11) hx hb hts w0 hown hK hP 0 rfl rfl 8 (by decide) w1 (fun _ h9 => h9) rfl dX5_look_8 ?_
    refine lv_iload_n hx hb dX5_look_11 rfl (lv_at hl 1 rfl) ?_
    obtain ⟨g4, hf⟩ := gd_inv hf
    obtain ⟨g5, hf⟩ := gd_inv hf
    refine va_aldq hx hb hK hP 1 5 rfl rfl g4 dX5_look_12 ?_
    refine W.eq (g2 := F0 m 13 ls (.ref sa :: [])) (by rw [g5]; rfl) ?_
    refine lv_iload_n hx hb dX5_look_13 rfl (lv_at hl 2 rfl) ?_
    obtain ⟨r6, hc7, hf⟩ := bd_inv hf
    refine xcV (As := [.int k]) (rest := []) (ws' := [(xa, .inr (5, [.ref ta, .ref fa, .ref da, .ref na, .ref ga, .ref xp, .ref xs, .ref xi, .ref xh, .int np, .int un])), (xh, .inl (cS, 3, .inr (.inr (.inr (.inr hf0))))), (sa, .inr (3, [.int sms, .int smf, .int spl, .ref sb])), (sb, .inl (cI, 8, .inl smk))]) ⟨hx, hb, hml, hown, hts⟩ (c_X3_markAt l D B adK adV cC cF cI cZ cM cS sa sms smf spl sb smk k  r6 hc7) (cwV 1 hts gX5_look_X3_markAt rfl rfl rfl (by decide +kernel) ⟨Nat.le_of_ble_eq_true rfl, Nat.le_of_ble_eq_true rfl⟩) (va_recv hK hP (ci := 3) (q0 := 2) rfl rfl) hK hP hD hS hB hE [2, 3] rfl rfl rfl rfl rfl hl.1 rfl (Nat.le_of_ble_eq_true rfl) dX5_look_14 ⟨Nat.le_of_ble_eq_true rfl, Nat.le_of_ble_eq_true rfl⟩ (fun H locs hP hD hS => ?_)
    refine W.eq (g2 := F0 m 17 ls [.int r6]) rfl ?_
    refine lv_goto (tgt := 22) hx hb dX5_look_17 (by decide) ?_
    have h1 := Option.some.inj hf
    subst h1
    rw [hQ]
    exact W.iret (v := r6) hx hb hr (fun t ht hW => qEnd hP hS ht) hS.2.2 dX5_look_22
set_option maxRecDepth 100000 in
set_option maxHeartbeats 4000000 in
theorem c_X5_lift (l : Launch) (D : va_G) (B : Nat) (adK adV : Nat → Nat) (cC cF cI cZ cM cS : ClassId) (xa : Nat) (ta : Nat) (fa : Nat) (da : Nat) (na : Nat) (ga : Nat) (xp : Nat) (xs : Nat) (xi : Nat) (xh : Nat) (np : Int32) (un : Int32) (hf0 : Nat → Option Nat) (sa : Nat) (sms : Int32) (smf : Int32) (spl : Int32) (sb : Nat) (smk : Nat → Int32) (i : Int32) (k : Int32) (zz : Int32 × (Nat → Int32)) (hf : f_X5_lift hf0 sa sms spl smk i k = some zz) : Ct l yX5_lift wsX5_lift { frames := 2, cells := 0, slots := 0, locals := 42 } D B adK adV (tysX cC cF cI cZ cM cS) [.ref xa, .int i, .int k] [(xa, .inr (5, [.ref ta, .ref fa, .ref da, .ref na, .ref ga, .ref xp, .ref xs, .ref xi, .ref xh, .int np, .int un])), (xh, .inl (cS, 3, .inr (.inr (.inr (.inr hf0))))), (sa, .inr (3, [.int sms, .int smf, .int spl, .ref sb])), (sb, .inl (cI, 8, .inl smk))] [(xa, .inr (5, [.ref ta, .ref fa, .ref da, .ref na, .ref ga, .ref xp, .ref xs, .ref xi, .ref xh, .int np, .int un])), (xh, .inl (cS, 3, .inr (.inr (.inr (.inr hf0))))), (sa, .inr (3, [.int sms, .int smf, .int spl, .ref sb])), (sb, .inl (cI, 8, .inl zz.2))] (some (.int zz.1)) := by
  refine Ct.ofW (cc := cX5_lift) (maxL := 4) (ret := (some .int)) (by decide) rfl (Nat.le_of_ble_eq_true rfl) ?_
  intro p e s m args below meth c hx hb hr hml hts hown hlocks hnm hK hE A Q hQ hB H locs ls hP hD hS hl
  have hl : lv_has ls 4 [(0, .ref xa), (1, .int i), (2, .int k)] := hl
  have w0 : ∀ w ∈ u_ws RX5 TX5 11, w ∈ wsX5_lift := by decide +kernel
  have w1 := hts (.fieldLink RX5 49 "MotionStates" "shelves" "[LMotionStates$Shelf;") (by decide +kernel)
  have w2 : ∀ w ∈ u_ws RX3 TX3 4, w ∈ wsX5_lift := by decide +kernel
  have w3 : (Cond.fieldLinkNest "MotionStates" 196 "MotionStates$Shelf" "marks" "[I" "MotionStates").before args s = true := va_Nw.use rfl (hE.1 ("MotionStates", 196, "MotionStates$Shelf", "marks", "[I", "MotionStates") (by decide +kernel))
  unfold f_X5_lift at hf
  refine lv_iload_n hx hb dX5_lift_0 rfl (lv_at hl 1 rfl) ?_
  obtain ⟨r1, hc2, hf⟩ := bd_inv hf
  refine xcS (As := [.int i]) (rest := []) (ws' := [(xa, .inr (5, [.ref ta, .ref fa, .ref da, .ref na, .ref ga, .ref xp, .ref xs, .ref xi, .ref xh, .int np, .int un])), (xh, .inl (cS, 3, .inr (.inr (.inr (.inr hf0))))), (sa, .inr (3, [.int sms, .int smf, .int spl, .ref sb])), (sb, .inl (cI, 8, .inl smk))]) ⟨hx, hb, hml, hown, hts⟩ (c_X5_isShelf l D B adK adV cC cF cI cZ cM cS i  r1 hc2) (va_cwS 1 hts gX5_lift_X5_isShelf rfl rfl rfl (by decide +kernel) ⟨Nat.le_of_ble_eq_true rfl, Nat.le_of_ble_eq_true rfl⟩) hK hP hD hS hB hE [] rfl rfl rfl rfl rfl hl.1 rfl (Nat.le_of_ble_eq_true rfl) dX5_lift_1 ⟨Nat.le_of_ble_eq_true rfl, Nat.le_of_ble_eq_true rfl⟩ (fun H locs hP hD hS => ?_)
  refine W.eq (g2 := F0 m 4 ls [.int r1]) rfl ?_
  refine lv_if_ne (tgt := 10) hx hb dX5_lift_4 (by decide) (fun c3 => ?_) (fun c3 => ?_)
  · have hf := if_n c3 hf
    refine lv_aload_n hx hb dX5_lift_10 rfl (lv_at hl 0 rfl) ?_
    refine va_get (D := D) (ci := 5) (v := .ref xh) (C := RX5) (T := TX5) (N := 11) hx hb hts w0 hown hK hP 0 rfl rfl 8 (by decide) w1 (fun _ h9 => h9) rfl dX5_lift_11 ?_
    refine lv_iload_n hx hb dX5_lift_14 rfl (lv_at hl 1 rfl) ?_
    obtain ⟨g4, hf⟩ := gd_inv hf
    obtain ⟨g5, hf⟩ := gd_inv hf
    refine va_aldq hx hb hK hP 1 5 rfl rfl g4 dX5_lift_15 ?_
    refine W.eq (g2 := F0 m 16 ls (.ref sa :: [])) (by rw [g5]; rfl) ?_
    refine lv_iload_n hx hb dX5_lift_16 rfl (lv_at hl 2 rfl) ?_
    obtain ⟨r6, hc7, hf⟩ := bd_inv hf
    refine xcV (As := [.int k]) (rest := []) (ws' := [(xa, .inr (5, [.ref ta, .ref fa, .ref da, .ref na, .ref ga, .ref xp, .ref xs, .ref xi, .ref xh, .int np, .int un])), (xh, .inl (cS, 3, .inr (.inr (.inr (.inr hf0))))), (sa, .inr (3, [.int sms, .int smf, .int spl, .ref sb])), (sb, .inl (cI, 8, .inl smk))]) ⟨hx, hb, hml, hown, hts⟩ (c_X3_markAt l D B adK adV cC cF cI cZ cM cS sa sms smf spl sb smk k  r6 hc7) (cwV 1 hts gX5_lift_X3_markAt rfl rfl rfl (by decide +kernel) ⟨Nat.le_of_ble_eq_true rfl, Nat.le_of_ble_eq_true rfl⟩) (va_recv hK hP (ci := 3) (q0 := 2) rfl rfl) hK hP hD hS hB hE [2, 3] rfl rfl rfl rfl rfl hl.1 rfl (Nat.le_of_ble_eq_true rfl) dX5_lift_17 ⟨Nat.le_of_ble_eq_true rfl, Nat.le_of_ble_eq_true rfl⟩ (fun H locs hP hD hS => ?_)
    refine W.eq (g2 := F0 m 20 ls [.int r6]) rfl ?_
    refine lv_istore_n (lv' := [(3, .int r6), (0, .ref xa), (1, .int i), (2, .int k)]) hx hb dX5_lift_20 rfl hl (by decide) rfl (fun ls hl => ?_)
    refine lv_iload_n hx hb dX5_lift_21 rfl (lv_at hl 0 rfl) ?_
    refine lv_if_lt (tgt := 38) hx hb dX5_lift_22 (by decide) (fun c8 => ?_) (fun c8 => ?_)
    · have hf := if_p c8 hf
      refine lv_iload_n hx hb dX5_lift_38 rfl (lv_at hl 0 rfl) ?_
      have h1 := Option.some.inj hf
      subst h1
      rw [hQ]
      exact W.iret (v := r6) hx hb hr (fun t ht hW => qEnd hP hS ht) hS.2.2 dX5_lift_39
    · have hf := if_n c8 hf
      refine lv_aload_n hx hb dX5_lift_25 rfl (lv_at hl 1 rfl) ?_
      refine va_get (D := D) (ci := 5) (v := .ref xh) (C := RX5) (T := TX5) (N := 11) hx hb hts w0 hown hK hP 0 rfl rfl 8 (by decide) w1 (fun _ h9 => h9) rfl dX5_lift_26 ?_
      refine lv_iload_n hx hb dX5_lift_29 rfl (lv_at hl 2 rfl) ?_
      obtain ⟨g9, hf⟩ := gd_inv hf
      obtain ⟨g10, hf⟩ := gd_inv hf
      refine va_aldq hx hb hK hP 1 5 rfl rfl g9 dX5_lift_30 ?_
      refine W.eq (g2 := F0 m 31 ls (.ref sa :: [])) (by rw [g10]; rfl) ?_
      refine va_getN (D := D) (ci := 3) (v := .ref sb) (C := RX3) (T := TX3) (N := 4) hx hb hts w2 hown hK hP 2 rfl rfl 3 (by decide) w3 (fun _ h9 => h9) rfl dX5_lift_31 ?_
      refine lv_iload_n hx hb dX5_lift_34 rfl (lv_at hl 3 rfl) ?_
      refine lv_bipush (v := (-15)) hx hb dX5_lift_35 (by decide) ?_
      obtain ⟨g11, hf⟩ := gd_inv hf
      refine va_iast hx hb hK hP hD hS 3 2 rfl rfl g11 dX5_lift_37 (fun H locs hP hD hS => ?_)
      have hP : va_P D vwCl [(xa, .inr (5, [.ref ta, .ref fa, .ref da, .ref na, .ref ga, .ref xp, .ref xs, .ref xi, .ref xh, .int np, .int un])), (xh, .inl (cS, 3, .inr (.inr (.inr (.inr hf0))))), (sa, .inr (3, [.int sms, .int smf, .int spl, .ref sb])), (sb, .inl (cI, 8, .inl (upd smk k.toNatClampNeg (-15))))] H := hP
      have hD : va_D A [(xa, .inr (5, [.ref ta, .ref fa, .ref da, .ref na, .ref ga, .ref xp, .ref xs, .ref xi, .ref xh, .int np, .int un])), (xh, .inl (cS, 3, .inr (.inr (.inr (.inr hf0))))), (sa, .inr (3, [.int sms, .int smf, .int spl, .ref sb])), (sb, .inl (cI, 8, .inl (upd smk k.toNatClampNeg (-15))))] := hD
      refine lv_iload_n hx hb dX5_lift_38 rfl (lv_at hl 0 rfl) ?_
      have h1 := Option.some.inj hf
      subst h1
      rw [hQ]
      exact W.iret (v := r6) hx hb hr (fun t ht hW => qEnd hP hS ht) hS.2.2 dX5_lift_39
  · have hf := if_p c3 hf
    refine lv_bipush (v := (-2)) hx hb dX5_lift_7 (by decide) ?_
    have h1 := Option.some.inj hf
    subst h1
    rw [hQ]
    exact W.iret (v := (-2)) hx hb hr (fun t ht hW => qEnd hP hS ht) hS.2.2 dX5_lift_9
set_option maxRecDepth 100000 in
set_option maxHeartbeats 4000000 in
theorem c_X5_likeness_d (l : Launch) (D : va_G) (B : Nat) (adK adV : Nat → Nat) (cC cF cI cZ cM cS : ClassId) (xa : Nat) (ta : Nat) (fa : Nat) (da : Nat) (na : Nat) (ga : Nat) (xp : Nat) (xs : Nat) (xi : Nat) (xh : Nat) (np : Int32) (un : Int32) (hf0 : Nat → Option Nat) (sa : Nat) (sms : Int32) (smf : Int32) (spl : Int32) (sb : Nat) (smk : Nat → Int32) (oa : Nat) (oms : Int32) (omf : Int32) (opl : Int32) (ob : Nat) (omk : Nat → Int32) (i : Int32) (j : Int32) (zz : Int32 × (Nat → Int32) × Int32 × Int32 × Int32) (hf : f_X5_likeness_d hf0 sa sms smf spl smk oa oms omf opl omk i j = some zz) : Ct l yX5_likeness wsX5_likeness { frames := 2, cells := 0, slots := 0, locals := 89 } D B adK adV (tysX cC cF cI cZ cM cS) [.ref xa, .int i, .int j] [(xa, .inr (5, [.ref ta, .ref fa, .ref da, .ref na, .ref ga, .ref xp, .ref xs, .ref xi, .ref xh, .int np, .int un])), (xh, .inl (cS, 3, .inr (.inr (.inr (.inr hf0))))), (sa, .inr (3, [.int sms, .int smf, .int spl, .ref sb])), (sb, .inl (cI, 8, .inl smk)), (oa, .inr (3, [.int oms, .int omf, .int opl, .ref ob])), (ob, .inl (cI, 8, .inl omk))] [(xa, .inr (5, [.ref ta, .ref fa, .ref da, .ref na, .ref ga, .ref xp, .ref xs, .ref xi, .ref xh, .int np, .int un])), (xh, .inl (cS, 3, .inr (.inr (.inr (.inr hf0))))), (sa, .inr (3, [.int zz.2.2.1, .int zz.2.2.2.1, .int zz.2.2.2.2, .ref sb])), (sb, .inl (cI, 8, .inl zz.2.1)), (oa, .inr (3, [.int oms, .int omf, .int opl, .ref ob])), (ob, .inl (cI, 8, .inl omk))] (some (.int zz.1)) := by
  refine Ct.ofW (cc := cX5_likeness) (maxL := 3) (ret := (some .int)) (by decide) rfl (Nat.le_of_ble_eq_true rfl) ?_
  intro p e s m args below meth c hx hb hr hml hts hown hlocks hnm hK hE A Q hQ hB H locs ls hP hD hS hl
  have hl : lv_has ls 3 [(0, .ref xa), (1, .int i), (2, .int j)] := hl
  have w0 : ∀ w ∈ u_ws RX5 TX5 11, w ∈ wsX5_likeness := by decide +kernel
  have w1 := hts (.fieldLink RX5 49 "MotionStates" "shelves" "[LMotionStates$Shelf;") (by decide +kernel)
  have w2 : ∀ w ∈ u_ws RX3 TX3 4, w ∈ wsX5_likeness := by decide +kernel
  have w3 : (Cond.fieldLinkNest "MotionStates" 202 "MotionStates$Shelf" "isMissing" "Z" "MotionStates").before args s = true := va_Nw.use rfl (hE.1 ("MotionStates", 202, "MotionStates$Shelf", "isMissing", "Z", "MotionStates") (by decide +kernel))
  have w4 : (Cond.fieldLinkNest "MotionStates" 209 "MotionStates$Shelf" "places" "I" "MotionStates").before args s = true := va_Nw.use rfl (hE.1 ("MotionStates", 209, "MotionStates$Shelf", "places", "I", "MotionStates") (by decide +kernel))
  unfold f_X5_likeness_d at hf
  refine lv_iload_n hx hb dX5_likeness_0 rfl (lv_at hl 1 rfl) ?_
  obtain ⟨r1, hc2, hf⟩ := bd_inv hf
  refine xcS (As := [.int i]) (rest := []) (ws' := [(xa, .inr (5, [.ref ta, .ref fa, .ref da, .ref na, .ref ga, .ref xp, .ref xs, .ref xi, .ref xh, .int np, .int un])), (xh, .inl (cS, 3, .inr (.inr (.inr (.inr hf0))))), (sa, .inr (3, [.int sms, .int smf, .int spl, .ref sb])), (sb, .inl (cI, 8, .inl smk)), (oa, .inr (3, [.int oms, .int omf, .int opl, .ref ob])), (ob, .inl (cI, 8, .inl omk))]) ⟨hx, hb, hml, hown, hts⟩ (c_X5_isShelf l D B adK adV cC cF cI cZ cM cS i  r1 hc2) (va_cwS 1 hts gX5_likeness_X5_isShelf rfl rfl rfl (by decide +kernel) ⟨Nat.le_of_ble_eq_true rfl, Nat.le_of_ble_eq_true rfl⟩) hK hP hD hS hB hE [] rfl rfl rfl rfl rfl hl.1 rfl (Nat.le_of_ble_eq_true rfl) dX5_likeness_1 ⟨Nat.le_of_ble_eq_true rfl, Nat.le_of_ble_eq_true rfl⟩ (fun H locs hP hD hS => ?_)
  refine W.eq (g2 := F0 m 4 ls [.int r1]) rfl ?_
  refine lv_if_eq (tgt := 14) hx hb dX5_likeness_4 (by decide) (fun c3 => ?_) (fun c3 => ?_)
  · have hf := if_p c3 hf
    refine lv_bipush (v := (-2)) hx hb dX5_likeness_14 (by decide) ?_
    have h1 := Option.some.inj hf
    subst h1
    rw [hQ]
    exact W.iret (v := (-2)) hx hb hr (fun t ht hW => qEnd hP hS ht) hS.2.2 dX5_likeness_16
  · have hf := if_n c3 hf
    refine lv_iload_n hx hb dX5_likeness_7 rfl (lv_at hl 2 rfl) ?_
    obtain ⟨r4, hc5, hf⟩ := bd_inv hf
    refine xcS (As := [.int j]) (rest := []) (ws' := [(xa, .inr (5, [.ref ta, .ref fa, .ref da, .ref na, .ref ga, .ref xp, .ref xs, .ref xi, .ref xh, .int np, .int un])), (xh, .inl (cS, 3, .inr (.inr (.inr (.inr hf0))))), (sa, .inr (3, [.int sms, .int smf, .int spl, .ref sb])), (sb, .inl (cI, 8, .inl smk)), (oa, .inr (3, [.int oms, .int omf, .int opl, .ref ob])), (ob, .inl (cI, 8, .inl omk))]) ⟨hx, hb, hml, hown, hts⟩ (c_X5_isShelf l D B adK adV cC cF cI cZ cM cS j  r4 hc5) (va_cwS 1 hts gX5_likeness_X5_isShelf rfl rfl rfl (by decide +kernel) ⟨Nat.le_of_ble_eq_true rfl, Nat.le_of_ble_eq_true rfl⟩) hK hP hD hS hB hE [] rfl rfl rfl rfl rfl hl.1 rfl (Nat.le_of_ble_eq_true rfl) dX5_likeness_8 ⟨Nat.le_of_ble_eq_true rfl, Nat.le_of_ble_eq_true rfl⟩ (fun H locs hP hD hS => ?_)
    refine W.eq (g2 := F0 m 11 ls [.int r4]) rfl ?_
    refine lv_if_ne (tgt := 17) hx hb dX5_likeness_11 (by decide) (fun c6 => ?_) (fun c6 => ?_)
    · have hf := if_n c6 hf
      refine lv_aload_n hx hb dX5_likeness_17 rfl (lv_at hl 0 rfl) ?_
      refine va_get (D := D) (ci := 5) (v := .ref xh) (C := RX5) (T := TX5) (N := 11) hx hb hts w0 hown hK hP 0 rfl rfl 8 (by decide) w1 (fun _ h9 => h9) rfl dX5_likeness_18 ?_
      refine lv_iload_n hx hb dX5_likeness_21 rfl (lv_at hl 2 rfl) ?_
      obtain ⟨g7, hf⟩ := gd_inv hf
      obtain ⟨g8, hf⟩ := gd_inv hf
      refine va_aldq hx hb hK hP 1 5 rfl rfl g7 dX5_likeness_22 ?_
      refine W.eq (g2 := F0 m 23 ls (.ref oa :: [])) (by rw [g8]; rfl) ?_
      refine va_getN (D := D) (ci := 3) (v := .int oms) (C := RX3) (T := TX3) (N := 4) hx hb hts w2 hown hK hP 4 rfl rfl 0 (by decide) w3 (fun _ h9 => h9) rfl dX5_likeness_23 ?_
      refine lv_if_eq (tgt := 32) hx hb dX5_likeness_26 (by decide) (fun c9 => ?_) (fun c9 => ?_)
      · have hf := if_p c9 hf
        refine lv_aload_n hx hb dX5_likeness_32 rfl (lv_at hl 0 rfl) ?_
        refine va_get (D := D) (ci := 5) (v := .ref xh) (C := RX5) (T := TX5) (N := 11) hx hb hts w0 hown hK hP 0 rfl rfl 8 (by decide) w1 (fun _ h9 => h9) rfl dX5_likeness_33 ?_
        refine lv_iload_n hx hb dX5_likeness_36 rfl (lv_at hl 1 rfl) ?_
        obtain ⟨g10, hf⟩ := gd_inv hf
        obtain ⟨g11, hf⟩ := gd_inv hf
        refine va_aldq hx hb hK hP 1 5 rfl rfl g10 dX5_likeness_37 ?_
        refine W.eq (g2 := F0 m 38 ls (.ref sa :: [])) (by rw [g11]; rfl) ?_
        refine lv_aload_n hx hb dX5_likeness_38 rfl (lv_at hl 0 rfl) ?_
        refine va_get (D := D) (ci := 5) (v := .ref xh) (C := RX5) (T := TX5) (N := 11) hx hb hts w0 hown hK hP 0 rfl rfl 8 (by decide) w1 (fun _ h9 => h9) rfl dX5_likeness_39 ?_
        refine lv_iload_n hx hb dX5_likeness_42 rfl (lv_at hl 2 rfl) ?_
        obtain ⟨g12, hf⟩ := gd_inv hf
        obtain ⟨g13, hf⟩ := gd_inv hf
        refine va_aldq hx hb hK hP 1 5 rfl rfl g12 dX5_likeness_43 ?_
        refine W.eq (g2 := F0 m 44 ls (.ref oa :: .ref sa :: [])) (by rw [g13]; rfl) ?_
        obtain ⟨⟨o14, o15, o16, o17⟩, hc18, hf⟩ := bd_inv hf
        refine xcV (As := [.ref oa]) (rest := []) (ws' := [(xa, .inr (5, [.ref ta, .ref fa, .ref da, .ref na, .ref ga, .ref xp, .ref xs, .ref xi, .ref xh, .int np, .int un])), (xh, .inl (cS, 3, .inr (.inr (.inr (.inr hf0))))), (sa, .inr (3, [.int o15, .int o16, .int o17, .ref sb])), (sb, .inl (cI, 8, .inl o14)), (oa, .inr (3, [.int oms, .int omf, .int opl, .ref ob])), (ob, .inl (cI, 8, .inl omk))]) ⟨hx, hb, hml, hown, hts⟩ (c_X3_copyFrom l D B adK adV cC cF cI cZ cM cS sa sms smf spl sb smk oa oms omf opl ob omk  (o14, o15, o16, o17) hc18) (cwV 1 hts gX5_likeness_X3_copyFrom rfl rfl rfl (by decide +kernel) ⟨Nat.le_of_ble_eq_true rfl, Nat.le_of_ble_eq_true rfl⟩) (va_recv hK hP (ci := 3) (q0 := 2) rfl rfl) hK hP hD hS hB hE [2, 3, 4, 5] rfl rfl rfl rfl rfl hl.1 rfl (Nat.le_of_ble_eq_true rfl) dX5_likeness_44 ⟨Nat.le_of_ble_eq_true rfl, Nat.le_of_ble_eq_true rfl⟩ (fun H locs hP hD hS => ?_)
        refine W.eq (g2 := F0 m 47 ls []) rfl ?_
        refine lv_aload_n hx hb dX5_likeness_47 rfl (lv_at hl 0 rfl) ?_
        refine va_get (D := D) (ci := 5) (v := .ref xh) (C := RX5) (T := TX5) (N := 11) hx hb hts w0 hown hK hP 0 rfl rfl 8 (by decide) w1 (fun _ h9 => h9) rfl dX5_likeness_48 ?_
        refine lv_iload_n hx hb dX5_likeness_51 rfl (lv_at hl 1 rfl) ?_
        obtain ⟨g19, hf⟩ := gd_inv hf
        obtain ⟨g20, hf⟩ := gd_inv hf
        refine va_aldq hx hb hK hP 1 5 rfl rfl g19 dX5_likeness_52 ?_
        refine W.eq (g2 := F0 m 53 ls (.ref sa :: [])) (by rw [g20]; rfl) ?_
        refine va_getN (D := D) (ci := 3) (v := .int o17) (C := RX3) (T := TX3) (N := 4) hx hb hts w2 hown hK hP 2 rfl rfl 2 (by decide) w4 (fun _ h9 => h9) rfl dX5_likeness_53 ?_
        have h1 := Option.some.inj hf
        subst h1
        rw [hQ]
        exact W.iret (v := o17) hx hb hr (fun t ht hW => qEnd hP hS ht) hS.2.2 dX5_likeness_56
      · have hf := if_n c9 hf
        refine lv_bipush (v := (-11)) hx hb dX5_likeness_29 (by decide) ?_
        have h1 := Option.some.inj hf
        subst h1
        rw [hQ]
        exact W.iret (v := (-11)) hx hb hr (fun t ht hW => qEnd hP hS ht) hS.2.2 dX5_likeness_31
    · have hf := if_p c6 hf
      refine lv_bipush (v := (-2)) hx hb dX5_likeness_14 (by decide) ?_
      have h1 := Option.some.inj hf
      subst h1
      rw [hQ]
      exact W.iret (v := (-2)) hx hb hr (fun t ht hW => qEnd hP hS ht) hS.2.2 dX5_likeness_16
set_option maxRecDepth 100000 in
set_option maxHeartbeats 4000000 in
theorem c_X5_likeness_s (l : Launch) (D : va_G) (B : Nat) (adK adV : Nat → Nat) (cC cF cI cZ cM cS : ClassId) (xa : Nat) (ta : Nat) (fa : Nat) (da : Nat) (na : Nat) (ga : Nat) (xp : Nat) (xs : Nat) (xi : Nat) (xh : Nat) (np : Int32) (un : Int32) (hf0 : Nat → Option Nat) (sa : Nat) (sms : Int32) (smf : Int32) (spl : Int32) (sb : Nat) (smk : Nat → Int32) (i : Int32) (j : Int32) (zz : Int32 × (Nat → Int32)) (hf : f_X5_likeness_s hf0 sa sms spl smk i j = some zz) : Ct l yX5_likeness wsX5_likeness { frames := 2, cells := 0, slots := 0, locals := 89 } D B adK adV (tysX cC cF cI cZ cM cS) [.ref xa, .int i, .int j] [(xa, .inr (5, [.ref ta, .ref fa, .ref da, .ref na, .ref ga, .ref xp, .ref xs, .ref xi, .ref xh, .int np, .int un])), (xh, .inl (cS, 3, .inr (.inr (.inr (.inr hf0))))), (sa, .inr (3, [.int sms, .int smf, .int spl, .ref sb])), (sb, .inl (cI, 8, .inl smk))] [(xa, .inr (5, [.ref ta, .ref fa, .ref da, .ref na, .ref ga, .ref xp, .ref xs, .ref xi, .ref xh, .int np, .int un])), (xh, .inl (cS, 3, .inr (.inr (.inr (.inr hf0))))), (sa, .inr (3, [.int sms, .int smf, .int spl, .ref sb])), (sb, .inl (cI, 8, .inl zz.2))] (some (.int zz.1)) := by
  refine Ct.ofW (cc := cX5_likeness) (maxL := 3) (ret := (some .int)) (by decide) rfl (Nat.le_of_ble_eq_true rfl) ?_
  intro p e s m args below meth c hx hb hr hml hts hown hlocks hnm hK hE A Q hQ hB H locs ls hP hD hS hl
  have hl : lv_has ls 3 [(0, .ref xa), (1, .int i), (2, .int j)] := hl
  have w0 : ∀ w ∈ u_ws RX5 TX5 11, w ∈ wsX5_likeness := by decide +kernel
  have w1 := hts (.fieldLink RX5 49 "MotionStates" "shelves" "[LMotionStates$Shelf;") (by decide +kernel)
  have w2 : ∀ w ∈ u_ws RX3 TX3 4, w ∈ wsX5_likeness := by decide +kernel
  have w3 : (Cond.fieldLinkNest "MotionStates" 202 "MotionStates$Shelf" "isMissing" "Z" "MotionStates").before args s = true := va_Nw.use rfl (hE.1 ("MotionStates", 202, "MotionStates$Shelf", "isMissing", "Z", "MotionStates") (by decide +kernel))
  have w4 : (Cond.fieldLinkNest "MotionStates" 209 "MotionStates$Shelf" "places" "I" "MotionStates").before args s = true := va_Nw.use rfl (hE.1 ("MotionStates", 209, "MotionStates$Shelf", "places", "I", "MotionStates") (by decide +kernel))
  unfold f_X5_likeness_s at hf
  refine lv_iload_n hx hb dX5_likeness_0 rfl (lv_at hl 1 rfl) ?_
  obtain ⟨r1, hc2, hf⟩ := bd_inv hf
  refine xcS (As := [.int i]) (rest := []) (ws' := [(xa, .inr (5, [.ref ta, .ref fa, .ref da, .ref na, .ref ga, .ref xp, .ref xs, .ref xi, .ref xh, .int np, .int un])), (xh, .inl (cS, 3, .inr (.inr (.inr (.inr hf0))))), (sa, .inr (3, [.int sms, .int smf, .int spl, .ref sb])), (sb, .inl (cI, 8, .inl smk))]) ⟨hx, hb, hml, hown, hts⟩ (c_X5_isShelf l D B adK adV cC cF cI cZ cM cS i  r1 hc2) (va_cwS 1 hts gX5_likeness_X5_isShelf rfl rfl rfl (by decide +kernel) ⟨Nat.le_of_ble_eq_true rfl, Nat.le_of_ble_eq_true rfl⟩) hK hP hD hS hB hE [] rfl rfl rfl rfl rfl hl.1 rfl (Nat.le_of_ble_eq_true rfl) dX5_likeness_1 ⟨Nat.le_of_ble_eq_true rfl, Nat.le_of_ble_eq_true rfl⟩ (fun H locs hP hD hS => ?_)
  refine W.eq (g2 := F0 m 4 ls [.int r1]) rfl ?_
  refine lv_if_eq (tgt := 14) hx hb dX5_likeness_4 (by decide) (fun c3 => ?_) (fun c3 => ?_)
  · have hf := if_p c3 hf
    refine lv_bipush (v := (-2)) hx hb dX5_likeness_14 (by decide) ?_
    have h1 := Option.some.inj hf
    subst h1
    rw [hQ]
    exact W.iret (v := (-2)) hx hb hr (fun t ht hW => qEnd hP hS ht) hS.2.2 dX5_likeness_16
  · have hf := if_n c3 hf
    refine lv_iload_n hx hb dX5_likeness_7 rfl (lv_at hl 2 rfl) ?_
    obtain ⟨r4, hc5, hf⟩ := bd_inv hf
    refine xcS (As := [.int j]) (rest := []) (ws' := [(xa, .inr (5, [.ref ta, .ref fa, .ref da, .ref na, .ref ga, .ref xp, .ref xs, .ref xi, .ref xh, .int np, .int un])), (xh, .inl (cS, 3, .inr (.inr (.inr (.inr hf0))))), (sa, .inr (3, [.int sms, .int smf, .int spl, .ref sb])), (sb, .inl (cI, 8, .inl smk))]) ⟨hx, hb, hml, hown, hts⟩ (c_X5_isShelf l D B adK adV cC cF cI cZ cM cS j  r4 hc5) (va_cwS 1 hts gX5_likeness_X5_isShelf rfl rfl rfl (by decide +kernel) ⟨Nat.le_of_ble_eq_true rfl, Nat.le_of_ble_eq_true rfl⟩) hK hP hD hS hB hE [] rfl rfl rfl rfl rfl hl.1 rfl (Nat.le_of_ble_eq_true rfl) dX5_likeness_8 ⟨Nat.le_of_ble_eq_true rfl, Nat.le_of_ble_eq_true rfl⟩ (fun H locs hP hD hS => ?_)
    refine W.eq (g2 := F0 m 11 ls [.int r4]) rfl ?_
    refine lv_if_ne (tgt := 17) hx hb dX5_likeness_11 (by decide) (fun c6 => ?_) (fun c6 => ?_)
    · have hf := if_n c6 hf
      refine lv_aload_n hx hb dX5_likeness_17 rfl (lv_at hl 0 rfl) ?_
      refine va_get (D := D) (ci := 5) (v := .ref xh) (C := RX5) (T := TX5) (N := 11) hx hb hts w0 hown hK hP 0 rfl rfl 8 (by decide) w1 (fun _ h9 => h9) rfl dX5_likeness_18 ?_
      refine lv_iload_n hx hb dX5_likeness_21 rfl (lv_at hl 2 rfl) ?_
      obtain ⟨g7, hf⟩ := gd_inv hf
      obtain ⟨g8, hf⟩ := gd_inv hf
      refine va_aldq hx hb hK hP 1 5 rfl rfl g7 dX5_likeness_22 ?_
      refine W.eq (g2 := F0 m 23 ls (.ref sa :: [])) (by rw [g8]; rfl) ?_
      refine va_getN (D := D) (ci := 3) (v := .int sms) (C := RX3) (T := TX3) (N := 4) hx hb hts w2 hown hK hP 2 rfl rfl 0 (by decide) w3 (fun _ h9 => h9) rfl dX5_likeness_23 ?_
      refine lv_if_eq (tgt := 32) hx hb dX5_likeness_26 (by decide) (fun c9 => ?_) (fun c9 => ?_)
      · have hf := if_p c9 hf
        refine lv_aload_n hx hb dX5_likeness_32 rfl (lv_at hl 0 rfl) ?_
        refine va_get (D := D) (ci := 5) (v := .ref xh) (C := RX5) (T := TX5) (N := 11) hx hb hts w0 hown hK hP 0 rfl rfl 8 (by decide) w1 (fun _ h9 => h9) rfl dX5_likeness_33 ?_
        refine lv_iload_n hx hb dX5_likeness_36 rfl (lv_at hl 1 rfl) ?_
        obtain ⟨g10, hf⟩ := gd_inv hf
        obtain ⟨g11, hf⟩ := gd_inv hf
        refine va_aldq hx hb hK hP 1 5 rfl rfl g10 dX5_likeness_37 ?_
        refine W.eq (g2 := F0 m 38 ls (.ref sa :: [])) (by rw [g11]; rfl) ?_
        refine lv_aload_n hx hb dX5_likeness_38 rfl (lv_at hl 0 rfl) ?_
        refine va_get (D := D) (ci := 5) (v := .ref xh) (C := RX5) (T := TX5) (N := 11) hx hb hts w0 hown hK hP 0 rfl rfl 8 (by decide) w1 (fun _ h9 => h9) rfl dX5_likeness_39 ?_
        refine lv_iload_n hx hb dX5_likeness_42 rfl (lv_at hl 2 rfl) ?_
        obtain ⟨g12, hf⟩ := gd_inv hf
        obtain ⟨g13, hf⟩ := gd_inv hf
        refine va_aldq hx hb hK hP 1 5 rfl rfl g12 dX5_likeness_43 ?_
        refine W.eq (g2 := F0 m 44 ls (.ref sa :: .ref sa :: [])) (by rw [g13]; rfl) ?_
        obtain ⟨o14, hc15, hf⟩ := bd_inv hf
        refine xcV (As := [.ref sa]) (rest := []) (ws' := [(xa, .inr (5, [.ref ta, .ref fa, .ref da, .ref na, .ref ga, .ref xp, .ref xs, .ref xi, .ref xh, .int np, .int un])), (xh, .inl (cS, 3, .inr (.inr (.inr (.inr hf0))))), (sa, .inr (3, [.int sms, .int smf, .int spl, .ref sb])), (sb, .inl (cI, 8, .inl o14))]) ⟨hx, hb, hml, hown, hts⟩ (c_X3_copyFrom_s l D B adK adV cC cF cI cZ cM cS sa sms smf spl sb smk  o14 hc15) (cwV 1 hts gX5_likeness_X3_copyFrom rfl rfl rfl (by decide +kernel) ⟨Nat.le_of_ble_eq_true rfl, Nat.le_of_ble_eq_true rfl⟩) (va_recv hK hP (ci := 3) (q0 := 2) rfl rfl) hK hP hD hS hB hE [2, 3] rfl rfl rfl rfl rfl hl.1 rfl (Nat.le_of_ble_eq_true rfl) dX5_likeness_44 ⟨Nat.le_of_ble_eq_true rfl, Nat.le_of_ble_eq_true rfl⟩ (fun H locs hP hD hS => ?_)
        refine W.eq (g2 := F0 m 47 ls []) rfl ?_
        refine lv_aload_n hx hb dX5_likeness_47 rfl (lv_at hl 0 rfl) ?_
        refine va_get (D := D) (ci := 5) (v := .ref xh) (C := RX5) (T := TX5) (N := 11) hx hb hts w0 hown hK hP 0 rfl rfl 8 (by decide) w1 (fun _ h9 => h9) rfl dX5_likeness_48 ?_
        refine lv_iload_n hx hb dX5_likeness_51 rfl (lv_at hl 1 rfl) ?_
        obtain ⟨g16, hf⟩ := gd_inv hf
        obtain ⟨g17, hf⟩ := gd_inv hf
        refine va_aldq hx hb hK hP 1 5 rfl rfl g16 dX5_likeness_52 ?_
        refine W.eq (g2 := F0 m 53 ls (.ref sa :: [])) (by rw [g17]; rfl) ?_
        refine va_getN (D := D) (ci := 3) (v := .int spl) (C := RX3) (T := TX3) (N := 4) hx hb hts w2 hown hK hP 2 rfl rfl 2 (by decide) w4 (fun _ h9 => h9) rfl dX5_likeness_53 ?_
        have h1 := Option.some.inj hf
        subst h1
        rw [hQ]
        exact W.iret (v := spl) hx hb hr (fun t ht hW => qEnd hP hS ht) hS.2.2 dX5_likeness_56
      · have hf := if_n c9 hf
        refine lv_bipush (v := (-11)) hx hb dX5_likeness_29 (by decide) ?_
        have h1 := Option.some.inj hf
        subst h1
        rw [hQ]
        exact W.iret (v := (-11)) hx hb hr (fun t ht hW => qEnd hP hS ht) hS.2.2 dX5_likeness_31
    · have hf := if_p c6 hf
      refine lv_bipush (v := (-2)) hx hb dX5_likeness_14 (by decide) ?_
      have h1 := Option.some.inj hf
      subst h1
      rw [hQ]
      exact W.iret (v := (-2)) hx hb hr (fun t ht hW => qEnd hP hS ht) hS.2.2 dX5_likeness_16
set_option maxRecDepth 100000 in
set_option maxHeartbeats 4000000 in
theorem c_X5_hand_d (l : Launch) (D : va_G) (B : Nat) (adK adV : Nat → Nat) (cC cF cI cZ cM cS : ClassId) (xa : Nat) (ta : Nat) (fa : Nat) (da : Nat) (na : Nat) (ga : Nat) (xp : Nat) (xs : Nat) (xi : Nat) (xh : Nat) (np : Int32) (un : Int32) (hf0 : Nat → Option Nat) (sa : Nat) (sms : Int32) (smf : Int32) (spl : Int32) (sb : Nat) (smk : Nat → Int32) (oa : Nat) (oms : Int32) (omf : Int32) (opl : Int32) (ob : Nat) (omk : Nat → Int32) (i : Int32) (k : Int32) (j : Int32) (v : Int32) (zz : Int32 × (Nat → Int32)) (hf : f_X5_hand_d hf0 sa sms spl smk oa oms omf opl omk i k j v = some zz) : Ct l yX5_hand wsX5_hand { frames := 1, cells := 0, slots := 0, locals := 21 } D B adK adV (tysX cC cF cI cZ cM cS) [.ref xa, .int i, .int k, .int j, .int v] [(xa, .inr (5, [.ref ta, .ref fa, .ref da, .ref na, .ref ga, .ref xp, .ref xs, .ref xi, .ref xh, .int np, .int un])), (xh, .inl (cS, 3, .inr (.inr (.inr (.inr hf0))))), (sa, .inr (3, [.int sms, .int smf, .int spl, .ref sb])), (sb, .inl (cI, 8, .inl smk)), (oa, .inr (3, [.int oms, .int omf, .int opl, .ref ob])), (ob, .inl (cI, 8, .inl omk))] [(xa, .inr (5, [.ref ta, .ref fa, .ref da, .ref na, .ref ga, .ref xp, .ref xs, .ref xi, .ref xh, .int np, .int un])), (xh, .inl (cS, 3, .inr (.inr (.inr (.inr hf0))))), (sa, .inr (3, [.int sms, .int smf, .int spl, .ref sb])), (sb, .inl (cI, 8, .inl smk)), (oa, .inr (3, [.int oms, .int omf, .int opl, .ref ob])), (ob, .inl (cI, 8, .inl zz.2))] (some (.int zz.1)) := by
  refine Ct.ofW (cc := cX5_hand) (maxL := 8) (ret := (some .int)) (by decide) rfl (Nat.le_of_ble_eq_true rfl) ?_
  intro p e s m args below meth c hx hb hr hml hts hown hlocks hnm hK hE A Q hQ hB H locs ls hP hD hS hl
  have hl : lv_has ls 8 [(0, .ref xa), (1, .int i), (2, .int k), (3, .int j), (4, .int v)] := hl
  have w0 : ∀ w ∈ u_ws RX5 TX5 11, w ∈ wsX5_hand := by decide +kernel
  have w1 := hts (.fieldLink RX5 49 "MotionStates" "shelves" "[LMotionStates$Shelf;") (by decide +kernel)
  have w2 : ∀ w ∈ u_ws RX3 TX3 4, w ∈ wsX5_hand := by decide +kernel
  have w3 : (Cond.fieldLinkNest "MotionStates" 202 "MotionStates$Shelf" "isMissing" "Z" "MotionStates").before args s = true := va_Nw.use rfl (hE.1 ("MotionStates", 202, "MotionStates$Shelf", "isMissing", "Z", "MotionStates") (by decide +kernel))
  have w4 : (Cond.fieldLinkNest "MotionStates" 196 "MotionStates$Shelf" "marks" "[I" "MotionStates").before args s = true := va_Nw.use rfl (hE.1 ("MotionStates", 196, "MotionStates$Shelf", "marks", "[I", "MotionStates") (by decide +kernel))
  unfold f_X5_hand_d at hf
  refine lv_iload_n hx hb dX5_hand_0 rfl (lv_at hl 1 rfl) ?_
  obtain ⟨r1, hc2, hf⟩ := bd_inv hf
  refine xcS (As := [.int i]) (rest := []) (ws' := [(xa, .inr (5, [.ref ta, .ref fa, .ref da, .ref na, .ref ga, .ref xp, .ref xs, .ref xi, .ref xh, .int np, .int un])), (xh, .inl (cS, 3, .inr (.inr (.inr (.inr hf0))))), (sa, .inr (3, [.int sms, .int smf, .int spl, .ref sb])), (sb, .inl (cI, 8, .inl smk)), (oa, .inr (3, [.int oms, .int omf, .int opl, .ref ob])), (ob, .inl (cI, 8, .inl omk))]) ⟨hx, hb, hml, hown, hts⟩ (c_X5_isShelf l D B adK adV cC cF cI cZ cM cS i  r1 hc2) (va_cwS 1 hts gX5_hand_X5_isShelf rfl rfl rfl (by decide +kernel) ⟨Nat.le_of_ble_eq_true rfl, Nat.le_of_ble_eq_true rfl⟩) hK hP hD hS hB hE [] rfl rfl rfl rfl rfl hl.1 rfl (Nat.le_of_ble_eq_true rfl) dX5_hand_1 ⟨Nat.le_of_ble_eq_true rfl, Nat.le_of_ble_eq_true rfl⟩ (fun H locs hP hD hS => ?_)
  refine W.eq (g2 := F0 m 4 ls [.int r1]) rfl ?_
  refine lv_if_eq (tgt := 14) hx hb dX5_hand_4 (by decide) (fun c3 => ?_) (fun c3 => ?_)
  · have hf := if_p c3 hf
    refine lv_bipush (v := (-2)) hx hb dX5_hand_14 (by decide) ?_
    have h1 := Option.some.inj hf
    subst h1
    rw [hQ]
    exact W.iret (v := (-2)) hx hb hr (fun t ht hW => qEnd hP hS ht) hS.2.2 dX5_hand_16
  · have hf := if_n c3 hf
    refine lv_iload_n hx hb dX5_hand_7 rfl (lv_at hl 3 rfl) ?_
    obtain ⟨r4, hc5, hf⟩ := bd_inv hf
    refine xcS (As := [.int j]) (rest := []) (ws' := [(xa, .inr (5, [.ref ta, .ref fa, .ref da, .ref na, .ref ga, .ref xp, .ref xs, .ref xi, .ref xh, .int np, .int un])), (xh, .inl (cS, 3, .inr (.inr (.inr (.inr hf0))))), (sa, .inr (3, [.int sms, .int smf, .int spl, .ref sb])), (sb, .inl (cI, 8, .inl smk)), (oa, .inr (3, [.int oms, .int omf, .int opl, .ref ob])), (ob, .inl (cI, 8, .inl omk))]) ⟨hx, hb, hml, hown, hts⟩ (c_X5_isShelf l D B adK adV cC cF cI cZ cM cS j  r4 hc5) (va_cwS 1 hts gX5_hand_X5_isShelf rfl rfl rfl (by decide +kernel) ⟨Nat.le_of_ble_eq_true rfl, Nat.le_of_ble_eq_true rfl⟩) hK hP hD hS hB hE [] rfl rfl rfl rfl rfl hl.1 rfl (Nat.le_of_ble_eq_true rfl) dX5_hand_8 ⟨Nat.le_of_ble_eq_true rfl, Nat.le_of_ble_eq_true rfl⟩ (fun H locs hP hD hS => ?_)
    refine W.eq (g2 := F0 m 11 ls [.int r4]) rfl ?_
    refine lv_if_ne (tgt := 17) hx hb dX5_hand_11 (by decide) (fun c6 => ?_) (fun c6 => ?_)
    · have hf := if_n c6 hf
      refine lv_aload_n hx hb dX5_hand_17 rfl (lv_at hl 0 rfl) ?_
      refine va_get (D := D) (ci := 5) (v := .ref xh) (C := RX5) (T := TX5) (N := 11) hx hb hts w0 hown hK hP 0 rfl rfl 8 (by decide) w1 (fun _ h9 => h9) rfl dX5_hand_18 ?_
      refine lv_iload_n hx hb dX5_hand_21 rfl (lv_at hl 1 rfl) ?_
      obtain ⟨g7, hf⟩ := gd_inv hf
      obtain ⟨g8, hf⟩ := gd_inv hf
      refine va_aldq hx hb hK hP 1 5 rfl rfl g7 dX5_hand_22 ?_
      refine W.eq (g2 := F0 m 23 ls (.ref sa :: [])) (by rw [g8]; rfl) ?_
      refine lv_astore (lv' := [(5, .ref sa), (0, .ref xa), (1, .int i), (2, .int k), (3, .int j), (4, .int v)]) hx hb dX5_hand_23 hl (by decide) rfl (fun ls hl => ?_)
      refine lv_aload_n hx hb dX5_hand_25 rfl (lv_at hl 1 rfl) ?_
      refine va_get (D := D) (ci := 5) (v := .ref xh) (C := RX5) (T := TX5) (N := 11) hx hb hts w0 hown hK hP 0 rfl rfl 8 (by decide) w1 (fun _ h9 => h9) rfl dX5_hand_26 ?_
      refine lv_iload_n hx hb dX5_hand_29 rfl (lv_at hl 4 rfl) ?_
      obtain ⟨g9, hf⟩ := gd_inv hf
      obtain ⟨g10, hf⟩ := gd_inv hf
      refine va_aldq hx hb hK hP 1 5 rfl rfl g9 dX5_hand_30 ?_
      refine W.eq (g2 := F0 m 31 ls (.ref oa :: [])) (by rw [g10]; rfl) ?_
      refine lv_astore (lv' := [(6, .ref oa), (5, .ref sa), (0, .ref xa), (1, .int i), (2, .int k), (3, .int j), (4, .int v)]) hx hb dX5_hand_31 hl (by decide) rfl (fun ls hl => ?_)
      refine lv_aload hx hb dX5_hand_33 (lv_at hl 1 rfl) ?_
      refine va_getN (D := D) (ci := 3) (v := .int sms) (C := RX3) (T := TX3) (N := 4) hx hb hts w2 hown hK hP 2 rfl rfl 0 (by decide) w3 (fun _ h9 => h9) rfl dX5_hand_35 ?_
      refine lv_if_ne (tgt := 49) hx hb dX5_hand_38 (by decide) (fun c11 => ?_) (fun c11 => ?_)
      · have hf := if_n c11 hf
        refine lv_bipush (v := (-11)) hx hb dX5_hand_49 (by decide) ?_
        have h1 := Option.some.inj hf
        subst h1
        rw [hQ]
        exact W.iret (v := (-11)) hx hb hr (fun t ht hW => qEnd hP hS ht) hS.2.2 dX5_hand_51
      · have hf := if_p c11 hf
        refine lv_aload hx hb dX5_hand_41 (lv_at hl 0 rfl) ?_
        refine va_getN (D := D) (ci := 3) (v := .int oms) (C := RX3) (T := TX3) (N := 4) hx hb hts w2 hown hK hP 4 rfl rfl 0 (by decide) w3 (fun _ h9 => h9) rfl dX5_hand_43 ?_
        refine lv_if_eq (tgt := 52) hx hb dX5_hand_46 (by decide) (fun c12 => ?_) (fun c12 => ?_)
        · have hf := if_p c12 hf
          refine lv_aload hx hb dX5_hand_52 (lv_at hl 1 rfl) ?_
          refine lv_iload_n hx hb dX5_hand_54 rfl (lv_at hl 4 rfl) ?_
          obtain ⟨r13, hc14, hf⟩ := bd_inv hf
          refine xcV (As := [.int k]) (rest := []) (ws' := [(xa, .inr (5, [.ref ta, .ref fa, .ref da, .ref na, .ref ga, .ref xp, .ref xs, .ref xi, .ref xh, .int np, .int un])), (xh, .inl (cS, 3, .inr (.inr (.inr (.inr hf0))))), (sa, .inr (3, [.int sms, .int smf, .int spl, .ref sb])), (sb, .inl (cI, 8, .inl smk)), (oa, .inr (3, [.int oms, .int omf, .int opl, .ref ob])), (ob, .inl (cI, 8, .inl omk))]) ⟨hx, hb, hml, hown, hts⟩ (c_X3_hasPlace l D B adK adV cC cF cI cZ cM cS sa sms smf spl sb smk k  r13 hc14) (cwV 1 hts gX5_hand_X3_hasPlace rfl rfl rfl (by decide +kernel) ⟨Nat.le_of_ble_eq_true rfl, Nat.le_of_ble_eq_true rfl⟩) (va_recv hK hP (ci := 3) (q0 := 2) rfl rfl) hK hP hD hS hB hE [2, 3] rfl rfl rfl rfl rfl hl.1 rfl (Nat.le_of_ble_eq_true rfl) dX5_hand_55 ⟨Nat.le_of_ble_eq_true rfl, Nat.le_of_ble_eq_true rfl⟩ (fun H locs hP hD hS => ?_)
          refine W.eq (g2 := F0 m 58 ls [.int r13]) rfl ?_
          refine lv_if_eq (tgt := 71) hx hb dX5_hand_58 (by decide) (fun c15 => ?_) (fun c15 => ?_)
          · have hf := if_p c15 hf
            refine lv_bipush (v := (-13)) hx hb dX5_hand_71 (by decide) ?_
            have h1 := Option.some.inj hf
            subst h1
            rw [hQ]
            exact W.iret (v := (-13)) hx hb hr (fun t ht hW => qEnd hP hS ht) hS.2.2 dX5_hand_73
          · have hf := if_n c15 hf
            refine lv_aload hx hb dX5_hand_61 (lv_at hl 0 rfl) ?_
            refine lv_iload hx hb dX5_hand_63 (lv_at hl 6 rfl) ?_
            obtain ⟨r16, hc17, hf⟩ := bd_inv hf
            refine xcV (As := [.int v]) (rest := []) (ws' := [(xa, .inr (5, [.ref ta, .ref fa, .ref da, .ref na, .ref ga, .ref xp, .ref xs, .ref xi, .ref xh, .int np, .int un])), (xh, .inl (cS, 3, .inr (.inr (.inr (.inr hf0))))), (sa, .inr (3, [.int sms, .int smf, .int spl, .ref sb])), (sb, .inl (cI, 8, .inl smk)), (oa, .inr (3, [.int oms, .int omf, .int opl, .ref ob])), (ob, .inl (cI, 8, .inl omk))]) ⟨hx, hb, hml, hown, hts⟩ (c_X3_hasPlace l D B adK adV cC cF cI cZ cM cS oa oms omf opl ob omk v  r16 hc17) (cwV 1 hts gX5_hand_X3_hasPlace rfl rfl rfl (by decide +kernel) ⟨Nat.le_of_ble_eq_true rfl, Nat.le_of_ble_eq_true rfl⟩) (va_recv hK hP (ci := 3) (q0 := 4) rfl rfl) hK hP hD hS hB hE [4, 5] rfl rfl rfl rfl rfl hl.1 rfl (Nat.le_of_ble_eq_true rfl) dX5_hand_65 ⟨Nat.le_of_ble_eq_true rfl, Nat.le_of_ble_eq_true rfl⟩ (fun H locs hP hD hS => ?_)
            refine W.eq (g2 := F0 m 68 ls [.int r16]) rfl ?_
            refine lv_if_ne (tgt := 74) hx hb dX5_hand_68 (by decide) (fun c18 => ?_) (fun c18 => ?_)
            · have hf := if_n c18 hf
              refine lv_aload hx hb dX5_hand_74 (lv_at hl 1 rfl) ?_
              refine va_getN (D := D) (ci := 3) (v := .ref sb) (C := RX3) (T := TX3) (N := 4) hx hb hts w2 hown hK hP 2 rfl rfl 3 (by decide) w4 (fun _ h9 => h9) rfl dX5_hand_76 ?_
              refine lv_iload_n hx hb dX5_hand_79 rfl (lv_at hl 4 rfl) ?_
              obtain ⟨g19, hf⟩ := gd_inv hf
              refine va_iald hx hb hK hP 3 2 rfl rfl g19 dX5_hand_80 ?_
              refine lv_istore (lv' := [(7, .int (smk k.toNatClampNeg)), (6, .ref oa), (5, .ref sa), (0, .ref xa), (1, .int i), (2, .int k), (3, .int j), (4, .int v)]) hx hb dX5_hand_81 hl (by decide) rfl (fun ls hl => ?_)
              refine lv_iload hx hb dX5_hand_83 (lv_at hl 0 rfl) ?_
              refine lv_if_ge (tgt := 91) hx hb dX5_hand_85 (by decide) (fun c20 => ?_) (fun c20 => ?_)
              · have hf := if_p c20 hf
                refine lv_aload hx hb dX5_hand_91 (lv_at hl 1 rfl) ?_
                refine lv_iload hx hb dX5_hand_93 (lv_at hl 0 rfl) ?_
                obtain ⟨r21, hc22, hf⟩ := bd_inv hf
                refine xcV (As := [.int (smk k.toNatClampNeg)]) (rest := []) (ws' := [(xa, .inr (5, [.ref ta, .ref fa, .ref da, .ref na, .ref ga, .ref xp, .ref xs, .ref xi, .ref xh, .int np, .int un])), (xh, .inl (cS, 3, .inr (.inr (.inr (.inr hf0))))), (sa, .inr (3, [.int sms, .int smf, .int spl, .ref sb])), (sb, .inl (cI, 8, .inl smk)), (oa, .inr (3, [.int oms, .int omf, .int opl, .ref ob])), (ob, .inl (cI, 8, .inl omk))]) ⟨hx, hb, hml, hown, hts⟩ (c_X3_takes l D B adK adV cC cF cI cZ cM cS oa oms omf opl ob omk (smk k.toNatClampNeg)  r21 hc22) (cwV 1 hts gX5_hand_X3_takes rfl rfl rfl (by decide +kernel) ⟨Nat.le_of_ble_eq_true rfl, Nat.le_of_ble_eq_true rfl⟩) (va_recv hK hP (ci := 3) (q0 := 4) rfl rfl) hK hP hD hS hB hE [4, 5] rfl rfl rfl rfl rfl hl.1 rfl (Nat.le_of_ble_eq_true rfl) dX5_hand_95 ⟨Nat.le_of_ble_eq_true rfl, Nat.le_of_ble_eq_true rfl⟩ (fun H locs hP hD hS => ?_)
                refine W.eq (g2 := F0 m 98 ls [.int r21]) rfl ?_
                refine lv_if_ne (tgt := 104) hx hb dX5_hand_98 (by decide) (fun c23 => ?_) (fun c23 => ?_)
                · have hf := if_n c23 hf
                  refine lv_aload hx hb dX5_hand_104 (lv_at hl 1 rfl) ?_
                  refine va_getN (D := D) (ci := 3) (v := .ref ob) (C := RX3) (T := TX3) (N := 4) hx hb hts w2 hown hK hP 4 rfl rfl 3 (by decide) w4 (fun _ h9 => h9) rfl dX5_hand_106 ?_
                  refine lv_iload hx hb dX5_hand_109 (lv_at hl 7 rfl) ?_
                  refine lv_iload hx hb dX5_hand_111 (lv_at hl 0 rfl) ?_
                  obtain ⟨g24, hf⟩ := gd_inv hf
                  refine va_iast hx hb hK hP hD hS 5 2 rfl rfl g24 dX5_hand_113 (fun H locs hP hD hS => ?_)
                  have hP : va_P D vwCl [(xa, .inr (5, [.ref ta, .ref fa, .ref da, .ref na, .ref ga, .ref xp, .ref xs, .ref xi, .ref xh, .int np, .int un])), (xh, .inl (cS, 3, .inr (.inr (.inr (.inr hf0))))), (sa, .inr (3, [.int sms, .int smf, .int spl, .ref sb])), (sb, .inl (cI, 8, .inl smk)), (oa, .inr (3, [.int oms, .int omf, .int opl, .ref ob])), (ob, .inl (cI, 8, .inl (upd omk v.toNatClampNeg (smk k.toNatClampNeg))))] H := hP
                  have hD : va_D A [(xa, .inr (5, [.ref ta, .ref fa, .ref da, .ref na, .ref ga, .ref xp, .ref xs, .ref xi, .ref xh, .int np, .int un])), (xh, .inl (cS, 3, .inr (.inr (.inr (.inr hf0))))), (sa, .inr (3, [.int sms, .int smf, .int spl, .ref sb])), (sb, .inl (cI, 8, .inl smk)), (oa, .inr (3, [.int oms, .int omf, .int opl, .ref ob])), (ob, .inl (cI, 8, .inl (upd omk v.toNatClampNeg (smk k.toNatClampNeg))))] := hD
                  refine lv_iconst (v := 1) hx hb dX5_hand_114 (by decide) ?_
                  have h1 := Option.some.inj hf
                  subst h1
                  rw [hQ]
                  exact W.iret (v := 1) hx hb hr (fun t ht hW => qEnd hP hS ht) hS.2.2 dX5_hand_115
                · have hf := if_p c23 hf
                  refine lv_bipush (v := (-14)) hx hb dX5_hand_101 (by decide) ?_
                  have h1 := Option.some.inj hf
                  subst h1
                  rw [hQ]
                  exact W.iret (v := (-14)) hx hb hr (fun t ht hW => qEnd hP hS ht) hS.2.2 dX5_hand_103
              · have hf := if_n c20 hf
                refine lv_bipush (v := (-15)) hx hb dX5_hand_88 (by decide) ?_
                have h1 := Option.some.inj hf
                subst h1
                rw [hQ]
                exact W.iret (v := (-15)) hx hb hr (fun t ht hW => qEnd hP hS ht) hS.2.2 dX5_hand_90
            · have hf := if_p c18 hf
              refine lv_bipush (v := (-13)) hx hb dX5_hand_71 (by decide) ?_
              have h1 := Option.some.inj hf
              subst h1
              rw [hQ]
              exact W.iret (v := (-13)) hx hb hr (fun t ht hW => qEnd hP hS ht) hS.2.2 dX5_hand_73
        · have hf := if_n c12 hf
          refine lv_bipush (v := (-11)) hx hb dX5_hand_49 (by decide) ?_
          have h1 := Option.some.inj hf
          subst h1
          rw [hQ]
          exact W.iret (v := (-11)) hx hb hr (fun t ht hW => qEnd hP hS ht) hS.2.2 dX5_hand_51
    · have hf := if_p c6 hf
      refine lv_bipush (v := (-2)) hx hb dX5_hand_14 (by decide) ?_
      have h1 := Option.some.inj hf
      subst h1
      rw [hQ]
      exact W.iret (v := (-2)) hx hb hr (fun t ht hW => qEnd hP hS ht) hS.2.2 dX5_hand_16
set_option maxRecDepth 100000 in
set_option maxHeartbeats 4000000 in
theorem c_X5_hand_s (l : Launch) (D : va_G) (B : Nat) (adK adV : Nat → Nat) (cC cF cI cZ cM cS : ClassId) (xa : Nat) (ta : Nat) (fa : Nat) (da : Nat) (na : Nat) (ga : Nat) (xp : Nat) (xs : Nat) (xi : Nat) (xh : Nat) (np : Int32) (un : Int32) (hf0 : Nat → Option Nat) (sa : Nat) (sms : Int32) (smf : Int32) (spl : Int32) (sb : Nat) (smk : Nat → Int32) (i : Int32) (k : Int32) (j : Int32) (v : Int32) (zz : Int32 × (Nat → Int32)) (hf : f_X5_hand_s hf0 sa sms smf spl smk i k j v = some zz) : Ct l yX5_hand wsX5_hand { frames := 1, cells := 0, slots := 0, locals := 21 } D B adK adV (tysX cC cF cI cZ cM cS) [.ref xa, .int i, .int k, .int j, .int v] [(xa, .inr (5, [.ref ta, .ref fa, .ref da, .ref na, .ref ga, .ref xp, .ref xs, .ref xi, .ref xh, .int np, .int un])), (xh, .inl (cS, 3, .inr (.inr (.inr (.inr hf0))))), (sa, .inr (3, [.int sms, .int smf, .int spl, .ref sb])), (sb, .inl (cI, 8, .inl smk))] [(xa, .inr (5, [.ref ta, .ref fa, .ref da, .ref na, .ref ga, .ref xp, .ref xs, .ref xi, .ref xh, .int np, .int un])), (xh, .inl (cS, 3, .inr (.inr (.inr (.inr hf0))))), (sa, .inr (3, [.int sms, .int smf, .int spl, .ref sb])), (sb, .inl (cI, 8, .inl zz.2))] (some (.int zz.1)) := by
  refine Ct.ofW (cc := cX5_hand) (maxL := 8) (ret := (some .int)) (by decide) rfl (Nat.le_of_ble_eq_true rfl) ?_
  intro p e s m args below meth c hx hb hr hml hts hown hlocks hnm hK hE A Q hQ hB H locs ls hP hD hS hl
  have hl : lv_has ls 8 [(0, .ref xa), (1, .int i), (2, .int k), (3, .int j), (4, .int v)] := hl
  have w0 : ∀ w ∈ u_ws RX5 TX5 11, w ∈ wsX5_hand := by decide +kernel
  have w1 := hts (.fieldLink RX5 49 "MotionStates" "shelves" "[LMotionStates$Shelf;") (by decide +kernel)
  have w2 : ∀ w ∈ u_ws RX3 TX3 4, w ∈ wsX5_hand := by decide +kernel
  have w3 : (Cond.fieldLinkNest "MotionStates" 202 "MotionStates$Shelf" "isMissing" "Z" "MotionStates").before args s = true := va_Nw.use rfl (hE.1 ("MotionStates", 202, "MotionStates$Shelf", "isMissing", "Z", "MotionStates") (by decide +kernel))
  have w4 : (Cond.fieldLinkNest "MotionStates" 196 "MotionStates$Shelf" "marks" "[I" "MotionStates").before args s = true := va_Nw.use rfl (hE.1 ("MotionStates", 196, "MotionStates$Shelf", "marks", "[I", "MotionStates") (by decide +kernel))
  unfold f_X5_hand_s at hf
  refine lv_iload_n hx hb dX5_hand_0 rfl (lv_at hl 1 rfl) ?_
  obtain ⟨r1, hc2, hf⟩ := bd_inv hf
  refine xcS (As := [.int i]) (rest := []) (ws' := [(xa, .inr (5, [.ref ta, .ref fa, .ref da, .ref na, .ref ga, .ref xp, .ref xs, .ref xi, .ref xh, .int np, .int un])), (xh, .inl (cS, 3, .inr (.inr (.inr (.inr hf0))))), (sa, .inr (3, [.int sms, .int smf, .int spl, .ref sb])), (sb, .inl (cI, 8, .inl smk))]) ⟨hx, hb, hml, hown, hts⟩ (c_X5_isShelf l D B adK adV cC cF cI cZ cM cS i  r1 hc2) (va_cwS 1 hts gX5_hand_X5_isShelf rfl rfl rfl (by decide +kernel) ⟨Nat.le_of_ble_eq_true rfl, Nat.le_of_ble_eq_true rfl⟩) hK hP hD hS hB hE [] rfl rfl rfl rfl rfl hl.1 rfl (Nat.le_of_ble_eq_true rfl) dX5_hand_1 ⟨Nat.le_of_ble_eq_true rfl, Nat.le_of_ble_eq_true rfl⟩ (fun H locs hP hD hS => ?_)
  refine W.eq (g2 := F0 m 4 ls [.int r1]) rfl ?_
  refine lv_if_eq (tgt := 14) hx hb dX5_hand_4 (by decide) (fun c3 => ?_) (fun c3 => ?_)
  · have hf := if_p c3 hf
    refine lv_bipush (v := (-2)) hx hb dX5_hand_14 (by decide) ?_
    have h1 := Option.some.inj hf
    subst h1
    rw [hQ]
    exact W.iret (v := (-2)) hx hb hr (fun t ht hW => qEnd hP hS ht) hS.2.2 dX5_hand_16
  · have hf := if_n c3 hf
    refine lv_iload_n hx hb dX5_hand_7 rfl (lv_at hl 3 rfl) ?_
    obtain ⟨r4, hc5, hf⟩ := bd_inv hf
    refine xcS (As := [.int j]) (rest := []) (ws' := [(xa, .inr (5, [.ref ta, .ref fa, .ref da, .ref na, .ref ga, .ref xp, .ref xs, .ref xi, .ref xh, .int np, .int un])), (xh, .inl (cS, 3, .inr (.inr (.inr (.inr hf0))))), (sa, .inr (3, [.int sms, .int smf, .int spl, .ref sb])), (sb, .inl (cI, 8, .inl smk))]) ⟨hx, hb, hml, hown, hts⟩ (c_X5_isShelf l D B adK adV cC cF cI cZ cM cS j  r4 hc5) (va_cwS 1 hts gX5_hand_X5_isShelf rfl rfl rfl (by decide +kernel) ⟨Nat.le_of_ble_eq_true rfl, Nat.le_of_ble_eq_true rfl⟩) hK hP hD hS hB hE [] rfl rfl rfl rfl rfl hl.1 rfl (Nat.le_of_ble_eq_true rfl) dX5_hand_8 ⟨Nat.le_of_ble_eq_true rfl, Nat.le_of_ble_eq_true rfl⟩ (fun H locs hP hD hS => ?_)
    refine W.eq (g2 := F0 m 11 ls [.int r4]) rfl ?_
    refine lv_if_ne (tgt := 17) hx hb dX5_hand_11 (by decide) (fun c6 => ?_) (fun c6 => ?_)
    · have hf := if_n c6 hf
      refine lv_aload_n hx hb dX5_hand_17 rfl (lv_at hl 0 rfl) ?_
      refine va_get (D := D) (ci := 5) (v := .ref xh) (C := RX5) (T := TX5) (N := 11) hx hb hts w0 hown hK hP 0 rfl rfl 8 (by decide) w1 (fun _ h9 => h9) rfl dX5_hand_18 ?_
      refine lv_iload_n hx hb dX5_hand_21 rfl (lv_at hl 1 rfl) ?_
      obtain ⟨g7, hf⟩ := gd_inv hf
      obtain ⟨g8, hf⟩ := gd_inv hf
      refine va_aldq hx hb hK hP 1 5 rfl rfl g7 dX5_hand_22 ?_
      refine W.eq (g2 := F0 m 23 ls (.ref sa :: [])) (by rw [g8]; rfl) ?_
      refine lv_astore (lv' := [(5, .ref sa), (0, .ref xa), (1, .int i), (2, .int k), (3, .int j), (4, .int v)]) hx hb dX5_hand_23 hl (by decide) rfl (fun ls hl => ?_)
      refine lv_aload_n hx hb dX5_hand_25 rfl (lv_at hl 1 rfl) ?_
      refine va_get (D := D) (ci := 5) (v := .ref xh) (C := RX5) (T := TX5) (N := 11) hx hb hts w0 hown hK hP 0 rfl rfl 8 (by decide) w1 (fun _ h9 => h9) rfl dX5_hand_26 ?_
      refine lv_iload_n hx hb dX5_hand_29 rfl (lv_at hl 4 rfl) ?_
      obtain ⟨g9, hf⟩ := gd_inv hf
      obtain ⟨g10, hf⟩ := gd_inv hf
      refine va_aldq hx hb hK hP 1 5 rfl rfl g9 dX5_hand_30 ?_
      refine W.eq (g2 := F0 m 31 ls (.ref sa :: [])) (by rw [g10]; rfl) ?_
      refine lv_astore (lv' := [(6, .ref sa), (5, .ref sa), (0, .ref xa), (1, .int i), (2, .int k), (3, .int j), (4, .int v)]) hx hb dX5_hand_31 hl (by decide) rfl (fun ls hl => ?_)
      refine lv_aload hx hb dX5_hand_33 (lv_at hl 1 rfl) ?_
      refine va_getN (D := D) (ci := 3) (v := .int sms) (C := RX3) (T := TX3) (N := 4) hx hb hts w2 hown hK hP 2 rfl rfl 0 (by decide) w3 (fun _ h9 => h9) rfl dX5_hand_35 ?_
      refine lv_if_ne (tgt := 49) hx hb dX5_hand_38 (by decide) (fun c11 => ?_) (fun c11 => ?_)
      · have hf := if_n c11 hf
        refine lv_bipush (v := (-11)) hx hb dX5_hand_49 (by decide) ?_
        have h1 := Option.some.inj hf
        subst h1
        rw [hQ]
        exact W.iret (v := (-11)) hx hb hr (fun t ht hW => qEnd hP hS ht) hS.2.2 dX5_hand_51
      · have hf := if_p c11 hf
        refine lv_aload hx hb dX5_hand_41 (lv_at hl 0 rfl) ?_
        refine va_getN (D := D) (ci := 3) (v := .int sms) (C := RX3) (T := TX3) (N := 4) hx hb hts w2 hown hK hP 2 rfl rfl 0 (by decide) w3 (fun _ h9 => h9) rfl dX5_hand_43 ?_
        refine lv_if_eq (tgt := 52) hx hb dX5_hand_46 (by decide) (fun c12 => ?_) (fun c12 => absurd c11 c12)
        refine lv_aload hx hb dX5_hand_52 (lv_at hl 1 rfl) ?_
        refine lv_iload_n hx hb dX5_hand_54 rfl (lv_at hl 4 rfl) ?_
        obtain ⟨r13, hc14, hf⟩ := bd_inv hf
        refine xcV (As := [.int k]) (rest := []) (ws' := [(xa, .inr (5, [.ref ta, .ref fa, .ref da, .ref na, .ref ga, .ref xp, .ref xs, .ref xi, .ref xh, .int np, .int un])), (xh, .inl (cS, 3, .inr (.inr (.inr (.inr hf0))))), (sa, .inr (3, [.int sms, .int smf, .int spl, .ref sb])), (sb, .inl (cI, 8, .inl smk))]) ⟨hx, hb, hml, hown, hts⟩ (c_X3_hasPlace l D B adK adV cC cF cI cZ cM cS sa sms smf spl sb smk k  r13 hc14) (cwV 1 hts gX5_hand_X3_hasPlace rfl rfl rfl (by decide +kernel) ⟨Nat.le_of_ble_eq_true rfl, Nat.le_of_ble_eq_true rfl⟩) (va_recv hK hP (ci := 3) (q0 := 2) rfl rfl) hK hP hD hS hB hE [2, 3] rfl rfl rfl rfl rfl hl.1 rfl (Nat.le_of_ble_eq_true rfl) dX5_hand_55 ⟨Nat.le_of_ble_eq_true rfl, Nat.le_of_ble_eq_true rfl⟩ (fun H locs hP hD hS => ?_)
        refine W.eq (g2 := F0 m 58 ls [.int r13]) rfl ?_
        refine lv_if_eq (tgt := 71) hx hb dX5_hand_58 (by decide) (fun c15 => ?_) (fun c15 => ?_)
        · have hf := if_p c15 hf
          refine lv_bipush (v := (-13)) hx hb dX5_hand_71 (by decide) ?_
          have h1 := Option.some.inj hf
          subst h1
          rw [hQ]
          exact W.iret (v := (-13)) hx hb hr (fun t ht hW => qEnd hP hS ht) hS.2.2 dX5_hand_73
        · have hf := if_n c15 hf
          refine lv_aload hx hb dX5_hand_61 (lv_at hl 0 rfl) ?_
          refine lv_iload hx hb dX5_hand_63 (lv_at hl 6 rfl) ?_
          obtain ⟨r16, hc17, hf⟩ := bd_inv hf
          refine xcV (As := [.int v]) (rest := []) (ws' := [(xa, .inr (5, [.ref ta, .ref fa, .ref da, .ref na, .ref ga, .ref xp, .ref xs, .ref xi, .ref xh, .int np, .int un])), (xh, .inl (cS, 3, .inr (.inr (.inr (.inr hf0))))), (sa, .inr (3, [.int sms, .int smf, .int spl, .ref sb])), (sb, .inl (cI, 8, .inl smk))]) ⟨hx, hb, hml, hown, hts⟩ (c_X3_hasPlace l D B adK adV cC cF cI cZ cM cS sa sms smf spl sb smk v  r16 hc17) (cwV 1 hts gX5_hand_X3_hasPlace rfl rfl rfl (by decide +kernel) ⟨Nat.le_of_ble_eq_true rfl, Nat.le_of_ble_eq_true rfl⟩) (va_recv hK hP (ci := 3) (q0 := 2) rfl rfl) hK hP hD hS hB hE [2, 3] rfl rfl rfl rfl rfl hl.1 rfl (Nat.le_of_ble_eq_true rfl) dX5_hand_65 ⟨Nat.le_of_ble_eq_true rfl, Nat.le_of_ble_eq_true rfl⟩ (fun H locs hP hD hS => ?_)
          refine W.eq (g2 := F0 m 68 ls [.int r16]) rfl ?_
          refine lv_if_ne (tgt := 74) hx hb dX5_hand_68 (by decide) (fun c18 => ?_) (fun c18 => ?_)
          · have hf := if_n c18 hf
            refine lv_aload hx hb dX5_hand_74 (lv_at hl 1 rfl) ?_
            refine va_getN (D := D) (ci := 3) (v := .ref sb) (C := RX3) (T := TX3) (N := 4) hx hb hts w2 hown hK hP 2 rfl rfl 3 (by decide) w4 (fun _ h9 => h9) rfl dX5_hand_76 ?_
            refine lv_iload_n hx hb dX5_hand_79 rfl (lv_at hl 4 rfl) ?_
            obtain ⟨g19, hf⟩ := gd_inv hf
            refine va_iald hx hb hK hP 3 2 rfl rfl g19 dX5_hand_80 ?_
            refine lv_istore (lv' := [(7, .int (smk k.toNatClampNeg)), (6, .ref sa), (5, .ref sa), (0, .ref xa), (1, .int i), (2, .int k), (3, .int j), (4, .int v)]) hx hb dX5_hand_81 hl (by decide) rfl (fun ls hl => ?_)
            refine lv_iload hx hb dX5_hand_83 (lv_at hl 0 rfl) ?_
            refine lv_if_ge (tgt := 91) hx hb dX5_hand_85 (by decide) (fun c20 => ?_) (fun c20 => ?_)
            · have hf := if_p c20 hf
              refine lv_aload hx hb dX5_hand_91 (lv_at hl 1 rfl) ?_
              refine lv_iload hx hb dX5_hand_93 (lv_at hl 0 rfl) ?_
              obtain ⟨r21, hc22, hf⟩ := bd_inv hf
              refine xcV (As := [.int (smk k.toNatClampNeg)]) (rest := []) (ws' := [(xa, .inr (5, [.ref ta, .ref fa, .ref da, .ref na, .ref ga, .ref xp, .ref xs, .ref xi, .ref xh, .int np, .int un])), (xh, .inl (cS, 3, .inr (.inr (.inr (.inr hf0))))), (sa, .inr (3, [.int sms, .int smf, .int spl, .ref sb])), (sb, .inl (cI, 8, .inl smk))]) ⟨hx, hb, hml, hown, hts⟩ (c_X3_takes l D B adK adV cC cF cI cZ cM cS sa sms smf spl sb smk (smk k.toNatClampNeg)  r21 hc22) (cwV 1 hts gX5_hand_X3_takes rfl rfl rfl (by decide +kernel) ⟨Nat.le_of_ble_eq_true rfl, Nat.le_of_ble_eq_true rfl⟩) (va_recv hK hP (ci := 3) (q0 := 2) rfl rfl) hK hP hD hS hB hE [2, 3] rfl rfl rfl rfl rfl hl.1 rfl (Nat.le_of_ble_eq_true rfl) dX5_hand_95 ⟨Nat.le_of_ble_eq_true rfl, Nat.le_of_ble_eq_true rfl⟩ (fun H locs hP hD hS => ?_)
              refine W.eq (g2 := F0 m 98 ls [.int r21]) rfl ?_
              refine lv_if_ne (tgt := 104) hx hb dX5_hand_98 (by decide) (fun c23 => ?_) (fun c23 => ?_)
              · have hf := if_n c23 hf
                refine lv_aload hx hb dX5_hand_104 (lv_at hl 1 rfl) ?_
                refine va_getN (D := D) (ci := 3) (v := .ref sb) (C := RX3) (T := TX3) (N := 4) hx hb hts w2 hown hK hP 2 rfl rfl 3 (by decide) w4 (fun _ h9 => h9) rfl dX5_hand_106 ?_
                refine lv_iload hx hb dX5_hand_109 (lv_at hl 7 rfl) ?_
                refine lv_iload hx hb dX5_hand_111 (lv_at hl 0 rfl) ?_
                obtain ⟨g24, hf⟩ := gd_inv hf
                refine va_iast hx hb hK hP hD hS 3 2 rfl rfl g24 dX5_hand_113 (fun H locs hP hD hS => ?_)
                have hP : va_P D vwCl [(xa, .inr (5, [.ref ta, .ref fa, .ref da, .ref na, .ref ga, .ref xp, .ref xs, .ref xi, .ref xh, .int np, .int un])), (xh, .inl (cS, 3, .inr (.inr (.inr (.inr hf0))))), (sa, .inr (3, [.int sms, .int smf, .int spl, .ref sb])), (sb, .inl (cI, 8, .inl (upd smk v.toNatClampNeg (smk k.toNatClampNeg))))] H := hP
                have hD : va_D A [(xa, .inr (5, [.ref ta, .ref fa, .ref da, .ref na, .ref ga, .ref xp, .ref xs, .ref xi, .ref xh, .int np, .int un])), (xh, .inl (cS, 3, .inr (.inr (.inr (.inr hf0))))), (sa, .inr (3, [.int sms, .int smf, .int spl, .ref sb])), (sb, .inl (cI, 8, .inl (upd smk v.toNatClampNeg (smk k.toNatClampNeg))))] := hD
                refine lv_iconst (v := 1) hx hb dX5_hand_114 (by decide) ?_
                have h1 := Option.some.inj hf
                subst h1
                rw [hQ]
                exact W.iret (v := 1) hx hb hr (fun t ht hW => qEnd hP hS ht) hS.2.2 dX5_hand_115
              · have hf := if_p c23 hf
                refine lv_bipush (v := (-14)) hx hb dX5_hand_101 (by decide) ?_
                have h1 := Option.some.inj hf
                subst h1
                rw [hQ]
                exact W.iret (v := (-14)) hx hb hr (fun t ht hW => qEnd hP hS ht) hS.2.2 dX5_hand_103
            · have hf := if_n c20 hf
              refine lv_bipush (v := (-15)) hx hb dX5_hand_88 (by decide) ?_
              have h1 := Option.some.inj hf
              subst h1
              rw [hQ]
              exact W.iret (v := (-15)) hx hb hr (fun t ht hW => qEnd hP hS ht) hS.2.2 dX5_hand_90
          · have hf := if_p c18 hf
            refine lv_bipush (v := (-13)) hx hb dX5_hand_71 (by decide) ?_
            have h1 := Option.some.inj hf
            subst h1
            rw [hQ]
            exact W.iret (v := (-13)) hx hb hr (fun t ht hW => qEnd hP hS ht) hS.2.2 dX5_hand_73
    · have hf := if_p c6 hf
      refine lv_bipush (v := (-2)) hx hb dX5_hand_14 (by decide) ?_
      have h1 := Option.some.inj hf
      subst h1
      rw [hQ]
      exact W.iret (v := (-2)) hx hb hr (fun t ht hW => qEnd hP hS ht) hS.2.2 dX5_hand_16
set_option maxRecDepth 100000 in
set_option maxHeartbeats 4000000 in
theorem c_X5_drop (l : Launch) (D : va_G) (B : Nat) (adK adV : Nat → Nat) (cC cF cI cZ cM cS : ClassId) (xa : Nat) (ta : Nat) (fa : Nat) (da : Nat) (na : Nat) (ga : Nat) (xp : Nat) (xs : Nat) (xi : Nat) (xh : Nat) (np : Int32) (un : Int32) (hf0 : Nat → Option Nat) (sa : Nat) (sms : Int32) (smf : Int32) (spl : Int32) (sb : Nat) (smk : Nat → Int32) (i : Int32) (zz : Int32 × (Nat → Int32) × Int32 × Int32 × Int32) (hf : f_X5_drop hf0 sa sms smf spl smk i = some zz) : Ct l yX5_drop wsX5_drop { frames := 3, cells := 0, slots := 0, locals := 65 } D B adK adV (tysX cC cF cI cZ cM cS) [.ref xa, .int i] [(xa, .inr (5, [.ref ta, .ref fa, .ref da, .ref na, .ref ga, .ref xp, .ref xs, .ref xi, .ref xh, .int np, .int un])), (xh, .inl (cS, 3, .inr (.inr (.inr (.inr hf0))))), (sa, .inr (3, [.int sms, .int smf, .int spl, .ref sb])), (sb, .inl (cI, 8, .inl smk))] [(xa, .inr (5, [.ref ta, .ref fa, .ref da, .ref na, .ref ga, .ref xp, .ref xs, .ref xi, .ref xh, .int np, .int un])), (xh, .inl (cS, 3, .inr (.inr (.inr (.inr hf0))))), (sa, .inr (3, [.int zz.2.2.1, .int zz.2.2.2.1, .int zz.2.2.2.2, .ref sb])), (sb, .inl (cI, 8, .inl zz.2.1))] (some (.int zz.1)) := by
  refine Ct.ofW (cc := cX5_drop) (maxL := 3) (ret := (some .int)) (by decide) rfl (Nat.le_of_ble_eq_true rfl) ?_
  intro p e s m args below meth c hx hb hr hml hts hown hlocks hnm hK hE A Q hQ hB H locs ls hP hD hS hl
  have hl : lv_has ls 3 [(0, .ref xa), (1, .int i)] := hl
  have w0 : ∀ w ∈ u_ws RX5 TX5 11, w ∈ wsX5_drop := by decide +kernel
  have w1 := hts (.fieldLink RX5 49 "MotionStates" "shelves" "[LMotionStates$Shelf;") (by decide +kernel)
  have w2 : ∀ w ∈ u_ws RX3 TX3 4, w ∈ wsX5_drop := by decide +kernel
  have w3 : (Cond.fieldLinkNest "MotionStates" 202 "MotionStates$Shelf" "isMissing" "Z" "MotionStates").before args s = true := va_Nw.use rfl (hE.1 ("MotionStates", 202, "MotionStates$Shelf", "isMissing", "Z", "MotionStates") (by decide +kernel))
  have w4 : (Cond.fieldLinkNest "MotionStates" 209 "MotionStates$Shelf" "places" "I" "MotionStates").before args s = true := va_Nw.use rfl (hE.1 ("MotionStates", 209, "MotionStates$Shelf", "places", "I", "MotionStates") (by decide +kernel))
  unfold f_X5_drop at hf
  refine lv_iload_n hx hb dX5_drop_0 rfl (lv_at hl 1 rfl) ?_
  obtain ⟨r1, hc2, hf⟩ := bd_inv hf
  refine xcS (As := [.int i]) (rest := []) (ws' := [(xa, .inr (5, [.ref ta, .ref fa, .ref da, .ref na, .ref ga, .ref xp, .ref xs, .ref xi, .ref xh, .int np, .int un])), (xh, .inl (cS, 3, .inr (.inr (.inr (.inr hf0))))), (sa, .inr (3, [.int sms, .int smf, .int spl, .ref sb])), (sb, .inl (cI, 8, .inl smk))]) ⟨hx, hb, hml, hown, hts⟩ (c_X5_isShelf l D B adK adV cC cF cI cZ cM cS i  r1 hc2) (va_cwS 1 hts gX5_drop_X5_isShelf rfl rfl rfl (by decide +kernel) ⟨Nat.le_of_ble_eq_true rfl, Nat.le_of_ble_eq_true rfl⟩) hK hP hD hS hB hE [] rfl rfl rfl rfl rfl hl.1 rfl (Nat.le_of_ble_eq_true rfl) dX5_drop_1 ⟨Nat.le_of_ble_eq_true rfl, Nat.le_of_ble_eq_true rfl⟩ (fun H locs hP hD hS => ?_)
  refine W.eq (g2 := F0 m 4 ls [.int r1]) rfl ?_
  refine lv_if_ne (tgt := 10) hx hb dX5_drop_4 (by decide) (fun c3 => ?_) (fun c3 => ?_)
  · have hf := if_n c3 hf
    refine lv_aload_n hx hb dX5_drop_10 rfl (lv_at hl 0 rfl) ?_
    refine va_get (D := D) (ci := 5) (v := .ref xh) (C := RX5) (T := TX5) (N := 11) hx hb hts w0 hown hK hP 0 rfl rfl 8 (by decide) w1 (fun _ h9 => h9) rfl dX5_drop_11 ?_
    refine lv_iload_n hx hb dX5_drop_14 rfl (lv_at hl 1 rfl) ?_
    obtain ⟨g4, hf⟩ := gd_inv hf
    obtain ⟨g5, hf⟩ := gd_inv hf
    refine va_aldq hx hb hK hP 1 5 rfl rfl g4 dX5_drop_15 ?_
    refine W.eq (g2 := F0 m 16 ls (.ref sa :: [])) (by rw [g5]; rfl) ?_
    refine va_getN (D := D) (ci := 3) (v := .int sms) (C := RX3) (T := TX3) (N := 4) hx hb hts w2 hown hK hP 2 rfl rfl 0 (by decide) w3 (fun _ h9 => h9) rfl dX5_drop_16 ?_
    refine lv_if_eq (tgt := 25) hx hb dX5_drop_19 (by decide) (fun c6 => ?_) (fun c6 => ?_)
    · have hf := if_p c6 hf
      refine lv_aload_n hx hb dX5_drop_25 rfl (lv_at hl 0 rfl) ?_
      refine va_get (D := D) (ci := 5) (v := .ref xh) (C := RX5) (T := TX5) (N := 11) hx hb hts w0 hown hK hP 0 rfl rfl 8 (by decide) w1 (fun _ h9 => h9) rfl dX5_drop_26 ?_
      refine lv_iload_n hx hb dX5_drop_29 rfl (lv_at hl 1 rfl) ?_
      obtain ⟨g7, hf⟩ := gd_inv hf
      obtain ⟨g8, hf⟩ := gd_inv hf
      refine va_aldq hx hb hK hP 1 5 rfl rfl g7 dX5_drop_30 ?_
      refine W.eq (g2 := F0 m 31 ls (.ref sa :: [])) (by rw [g8]; rfl) ?_
      refine va_getN (D := D) (ci := 3) (v := .int spl) (C := RX3) (T := TX3) (N := 4) hx hb hts w2 hown hK hP 2 rfl rfl 2 (by decide) w4 (fun _ h9 => h9) rfl dX5_drop_31 ?_
      refine lv_istore_n (lv' := [(2, .int spl), (0, .ref xa), (1, .int i)]) hx hb dX5_drop_34 rfl hl (by decide) rfl (fun ls hl => ?_)
      refine lv_aload_n hx hb dX5_drop_35 rfl (lv_at hl 1 rfl) ?_
      refine va_get (D := D) (ci := 5) (v := .ref xh) (C := RX5) (T := TX5) (N := 11) hx hb hts w0 hown hK hP 0 rfl rfl 8 (by decide) w1 (fun _ h9 => h9) rfl dX5_drop_36 ?_
      refine lv_iload_n hx hb dX5_drop_39 rfl (lv_at hl 2 rfl) ?_
      obtain ⟨g9, hf⟩ := gd_inv hf
      obtain ⟨g10, hf⟩ := gd_inv hf
      refine va_aldq hx hb hK hP 1 5 rfl rfl g9 dX5_drop_40 ?_
      refine W.eq (g2 := F0 m 41 ls (.ref sa :: [])) (by rw [g10]; rfl) ?_
      obtain ⟨⟨o11, o12, o13, o14⟩, hc15, hf⟩ := bd_inv hf
      refine xcV (As := []) (rest := []) (ws' := [(xa, .inr (5, [.ref ta, .ref fa, .ref da, .ref na, .ref ga, .ref xp, .ref xs, .ref xi, .ref xh, .int np, .int un])), (xh, .inl (cS, 3, .inr (.inr (.inr (.inr hf0))))), (sa, .inr (3, [.int o12, .int o13, .int o14, .ref sb])), (sb, .inl (cI, 8, .inl o11))]) ⟨hx, hb, hml, hown, hts⟩ (c_X3_remove l D B adK adV cC cF cI cZ cM cS sa sms smf spl sb smk  (o11, o12, o13, o14) hc15) (cwV 0 hts gX5_drop_X3_remove rfl rfl rfl (by decide +kernel) ⟨Nat.le_of_ble_eq_true rfl, Nat.le_of_ble_eq_true rfl⟩) (va_recv hK hP (ci := 3) (q0 := 2) rfl rfl) hK hP hD hS hB hE [2, 3] rfl rfl rfl rfl rfl hl.1 rfl (Nat.le_of_ble_eq_true rfl) dX5_drop_41 ⟨Nat.le_of_ble_eq_true rfl, Nat.le_of_ble_eq_true rfl⟩ (fun H locs hP hD hS => ?_)
      refine W.eq (g2 := F0 m 44 ls []) rfl ?_
      refine lv_iload_n hx hb dX5_drop_44 rfl (lv_at hl 0 rfl) ?_
      have h1 := Option.some.inj hf
      subst h1
      rw [hQ]
      exact W.iret (v := spl) hx hb hr (fun t ht hW => qEnd hP hS ht) hS.2.2 dX5_drop_45
    · have hf := if_n c6 hf
      refine lv_bipush (v := (-11)) hx hb dX5_drop_22 (by decide) ?_
      have h1 := Option.some.inj hf
      subst h1
      rw [hQ]
      exact W.iret (v := (-11)) hx hb hr (fun t ht hW => qEnd hP hS ht) hS.2.2 dX5_drop_24
  · have hf := if_p c3 hf
    refine lv_bipush (v := (-2)) hx hb dX5_drop_7 (by decide) ?_
    have h1 := Option.some.inj hf
    subst h1
    rw [hQ]
    exact W.iret (v := (-2)) hx hb hr (fun t ht hW => qEnd hP hS ht) hS.2.2 dX5_drop_9
set_option maxRecDepth 100000 in
set_option maxHeartbeats 4000000 in
theorem c_X5_count (l : Launch) (D : va_G) (B : Nat) (adK adV : Nat → Nat) (cC cF cI cZ cM cS : ClassId) (xa : Nat) (ta : Nat) (fa : Nat) (da : Nat) (na : Nat) (ga : Nat) (xp : Nat) (xs : Nat) (xi : Nat) (xh : Nat) (np : Int32) (un : Int32) (tb : Nat) (tln : Int32) (tcl : Int32) (tts : Int32) (tte : Int32) (tam : Int32) (tc : Nat) (tlt : Nat → Int32) (tsv : Nat → Int32) (fst : Int32) (fb : Nat) (fwy : Int32) (fc : Nat) (fmk : Int32) (fwt : Int32) (fvl : Nat → Int32) (fpt : Nat → Int32) (nla : Nat) (nua : Nat) (nn : Nat) (ntr : Int32) (nlst : Int32) (nlla : Int32) (nlbw : Int32) (nlbf : Int32) (nlbd : Int32) (nlb : Nat) (nlc : Nat) (nlsh : Nat → UInt32) (nlsb : Nat → UInt32) (nust : Int32) (nula : Int32) (nubw : Int32) (nubf : Int32) (nubd : Int32) (nub : Nat) (nuc : Nat) (nush : Nat → UInt32) (nusb : Nat → UInt32) (nnm : Nat → Int32) (h0a : Nat) (h1a : Nat) (h2a : Nat) (h0ms : Int32) (h0mf : Int32) (h0pl : Int32) (h0b : Nat) (h0mk : Nat → Int32) (h1ms : Int32) (h1mf : Int32) (h1pl : Int32) (h1b : Nat) (h1mk : Nat → Int32) (h2ms : Int32) (h2mf : Int32) (h2pl : Int32) (h2b : Nat) (h2mk : Nat → Int32) (k : Int32) (zz : Int32) (hf : f_X5_count un tln fst fwy fmk fwt ntr nnm h0pl h0mk h1pl h1mk h2pl h2mk k = some zz) : Ct l yX5_count wsX5_count { frames := 2, cells := 0, slots := 0, locals := 44 } D B adK adV (tysX cC cF cI cZ cM cS) [.ref xa, .int k] [(xa, .inr (5, [.ref ta, .ref fa, .ref da, .ref na, .ref ga, .ref xp, .ref xs, .ref xi, .ref xh, .int np, .int un])), (ta, .inr (4, [.ref tb, .int tln, .int tcl, .int tts, .int tte, .int tam, .ref tc])), (tb, .inl (cC, 200, .inl tlt)), (tc, .inl (cI, 4, .inl tsv)), (fa, .inr (0, [.int fst, .ref fb, .int fwy, .ref fc, .int fmk, .int fwt])), (fb, .inl (cI, 24, .inl fvl)), (fc, .inl (cI, 84, .inl fpt)), (na, .inr (2, [.ref nla, .ref nua, .ref nn, .int ntr])), (nla, .inr (1, [.int nlst, .int nlla, .int nlbw, .int nlbf, .int nlbd, .ref nlb, .ref nlc])), (nlb, .inl (cF, 6, .inr (.inr (.inl nlsh)))), (nlc, .inl (cF, 6, .inr (.inr (.inl nlsb)))), (nua, .inr (1, [.int nust, .int nula, .int nubw, .int nubf, .int nubd, .ref nub, .ref nuc])), (nub, .inl (cF, 6, .inr (.inr (.inl nush)))), (nuc, .inl (cF, 6, .inr (.inr (.inl nusb)))), (nn, .inl (cI, 3, .inl nnm)), (xh, .inl (cS, 3, .inr (.inr (.inr (.inr (fun j => ([h0a, h1a, h2a] : List Nat)[j]?)))))), (h0a, .inr (3, [.int h0ms, .int h0mf, .int h0pl, .ref h0b])), (h0b, .inl (cI, 8, .inl h0mk)), (h1a, .inr (3, [.int h1ms, .int h1mf, .int h1pl, .ref h1b])), (h1b, .inl (cI, 8, .inl h1mk)), (h2a, .inr (3, [.int h2ms, .int h2mf, .int h2pl, .ref h2b])), (h2b, .inl (cI, 8, .inl h2mk))] [(xa, .inr (5, [.ref ta, .ref fa, .ref da, .ref na, .ref ga, .ref xp, .ref xs, .ref xi, .ref xh, .int np, .int un])), (ta, .inr (4, [.ref tb, .int tln, .int tcl, .int tts, .int tte, .int tam, .ref tc])), (tb, .inl (cC, 200, .inl tlt)), (tc, .inl (cI, 4, .inl tsv)), (fa, .inr (0, [.int fst, .ref fb, .int fwy, .ref fc, .int fmk, .int fwt])), (fb, .inl (cI, 24, .inl fvl)), (fc, .inl (cI, 84, .inl fpt)), (na, .inr (2, [.ref nla, .ref nua, .ref nn, .int ntr])), (nla, .inr (1, [.int nlst, .int nlla, .int nlbw, .int nlbf, .int nlbd, .ref nlb, .ref nlc])), (nlb, .inl (cF, 6, .inr (.inr (.inl nlsh)))), (nlc, .inl (cF, 6, .inr (.inr (.inl nlsb)))), (nua, .inr (1, [.int nust, .int nula, .int nubw, .int nubf, .int nubd, .ref nub, .ref nuc])), (nub, .inl (cF, 6, .inr (.inr (.inl nush)))), (nuc, .inl (cF, 6, .inr (.inr (.inl nusb)))), (nn, .inl (cI, 3, .inl nnm)), (xh, .inl (cS, 3, .inr (.inr (.inr (.inr (fun j => ([h0a, h1a, h2a] : List Nat)[j]?)))))), (h0a, .inr (3, [.int h0ms, .int h0mf, .int h0pl, .ref h0b])), (h0b, .inl (cI, 8, .inl h0mk)), (h1a, .inr (3, [.int h1ms, .int h1mf, .int h1pl, .ref h1b])), (h1b, .inl (cI, 8, .inl h1mk)), (h2a, .inr (3, [.int h2ms, .int h2mf, .int h2pl, .ref h2b])), (h2b, .inl (cI, 8, .inl h2mk))] (some (.int zz)) := by
  refine Ct.ofW (cc := cX5_count) (maxL := 2) (ret := (some .int)) (by decide) rfl (Nat.le_of_ble_eq_true rfl) ?_
  intro p e s m args below meth c hx hb hr hml hts hown hlocks hnm hK hE A Q hQ hB H locs ls hP hD hS hl
  have hl : lv_has ls 2 [(0, .ref xa), (1, .int k)] := hl
  have w0 : ∀ w ∈ u_ws RX5 TX5 11, w ∈ wsX5_count := by decide +kernel
  have w1 := hts (.fieldLink RX5 19 "MotionStates" "told" "LMotionStates$Figure;") (by decide +kernel)
  have w2 : ∀ w ∈ u_ws RX0 TX0 6, w ∈ wsX5_count := by decide +kernel
  have w3 : (Cond.fieldLinkNest "MotionStates" 110 "MotionStates$Figure" "states" "I" "MotionStates").before args s = true := va_Nw.use rfl (hE.1 ("MotionStates", 110, "MotionStates$Figure", "states", "I", "MotionStates") (by decide +kernel))
  have w4 : (Cond.fieldLinkNest "MotionStates" 87 "MotionStates$Figure" "ways" "I" "MotionStates").before args s = true := va_Nw.use rfl (hE.1 ("MotionStates", 87, "MotionStates$Figure", "ways", "I", "MotionStates") (by decide +kernel))
  have w5 := hts (.fieldLink RX5 29 "MotionStates" "now" "LMotionStates$Motion;") (by decide +kernel)
  have w6 : ∀ w ∈ u_ws RX2 TX2 4, w ∈ wsX5_count := by decide +kernel
  have w7 : (Cond.fieldLinkNest "MotionStates" 221 "MotionStates$Motion" "triggers" "I" "MotionStates").before args s = true := va_Nw.use rfl (hE.1 ("MotionStates", 221, "MotionStates$Motion", "triggers", "I", "MotionStates") (by decide +kernel))
  have w8 : (Cond.fieldLinkNest "MotionStates" 94 "MotionStates$Motion" "numbers" "[I" "MotionStates").before args s = true := va_Nw.use rfl (hE.1 ("MotionStates", 94, "MotionStates$Motion", "numbers", "[I", "MotionStates") (by decide +kernel))
  have w9 : (Cond.fieldLinkNest "MotionStates" 224 "MotionStates$Figure" "mask" "I" "MotionStates").before args s = true := va_Nw.use rfl (hE.1 ("MotionStates", 224, "MotionStates$Figure", "mask", "I", "MotionStates") (by decide +kernel))
  have w10 : (Cond.fieldLinkNest "MotionStates" 227 "MotionStates$Figure" "weight" "I" "MotionStates").before args s = true := va_Nw.use rfl (hE.1 ("MotionStates", 227, "MotionStates$Figure", "weight", "I", "MotionStates") (by decide +kernel))
  have w11 := hts (.fieldLink RX5 125 "MotionStates" "undoable" "I") (by decide +kernel)
  have w12 := hts (.fieldLink RX5 10 "MotionStates" "text" "LMotionStates$Text;") (by decide +kernel)
  have w13 : ∀ w ∈ u_ws RX4 TX4 7, w ∈ wsX5_count := by decide +kernel
  have w14 : (Cond.fieldLinkNest "MotionStates" 54 "MotionStates$Text" "length" "I" "MotionStates").before args s = true := va_Nw.use rfl (hE.1 ("MotionStates", 54, "MotionStates$Text", "length", "I", "MotionStates") (by decide +kernel))
  unfold f_X5_count at hf
  refine lv_iload_n hx hb dX5_count_0 rfl (lv_at hl 1 rfl) ?_
  by_cases c1 : k = 0
  · have hf := if_p c1 hf
    refine lv_tableIn (off := 59) (tgt := 60) hx hb dX5_count_1 (by rw [c1]; decide) (by rw [c1]; decide) (by rw [c1]; decide) (by decide) ?_
    refine lv_aload_n hx hb dX5_count_60 rfl (lv_at hl 0 rfl) ?_
    refine va_get (D := D) (ci := 5) (v := .ref fa) (C := RX5) (T := TX5) (N := 11) hx hb hts w0 hown hK hP 0 rfl rfl 1 (by decide) w1 (fun _ h9 => h9) rfl dX5_count_61 ?_
    refine va_getN (D := D) (ci := 0) (v := .int fst) (C := RX0) (T := TX0) (N := 6) hx hb hts w2 hown hK hP 4 rfl rfl 0 (by decide) w3 (fun _ h9 => h9) rfl dX5_count_64 ?_
    have h1 := Option.some.inj hf
    subst h1
    rw [hQ]
    exact W.iret (v := fst) hx hb hr (fun t ht hW => qEnd hP hS ht) hS.2.2 dX5_count_67
  · have hf := if_n c1 hf
    by_cases c2 : k = 1
    · have hf := if_p c2 hf
      refine lv_tableIn (off := 67) (tgt := 68) hx hb dX5_count_1 (by rw [c2]; decide) (by rw [c2]; decide) (by rw [c2]; decide) (by decide) ?_
      refine lv_aload_n hx hb dX5_count_68 rfl (lv_at hl 0 rfl) ?_
      refine va_get (D := D) (ci := 5) (v := .ref fa) (C := RX5) (T := TX5) (N := 11) hx hb hts w0 hown hK hP 0 rfl rfl 1 (by decide) w1 (fun _ h9 => h9) rfl dX5_count_69 ?_
      refine va_getN (D := D) (ci := 0) (v := .int fwy) (C := RX0) (T := TX0) (N := 6) hx hb hts w2 hown hK hP 4 rfl rfl 2 (by decide) w4 (fun _ h9 => h9) rfl dX5_count_72 ?_
      have h1 := Option.some.inj hf
      subst h1
      rw [hQ]
      exact W.iret (v := fwy) hx hb hr (fun t ht hW => qEnd hP hS ht) hS.2.2 dX5_count_75
    · have hf := if_n c2 hf
      by_cases c3 : k = 2
      · have hf := if_p c3 hf
        refine lv_tableIn (off := 75) (tgt := 76) hx hb dX5_count_1 (by rw [c3]; decide) (by rw [c3]; decide) (by rw [c3]; decide) (by decide) ?_
        refine lv_aload_n hx hb dX5_count_76 rfl (lv_at hl 0 rfl) ?_
        refine va_get (D := D) (ci := 5) (v := .ref na) (C := RX5) (T := TX5) (N := 11) hx hb hts w0 hown hK hP 0 rfl rfl 3 (by decide) w5 (fun _ h9 => h9) rfl dX5_count_77 ?_
        refine va_getN (D := D) (ci := 2) (v := .int ntr) (C := RX2) (T := TX2) (N := 4) hx hb hts w6 hown hK hP 7 rfl rfl 3 (by decide) w7 (fun _ h9 => h9) rfl dX5_count_80 ?_
        have h1 := Option.some.inj hf
        subst h1
        rw [hQ]
        exact W.iret (v := ntr) hx hb hr (fun t ht hW => qEnd hP hS ht) hS.2.2 dX5_count_83
      · have hf := if_n c3 hf
        by_cases c4 : k = 3
        · have hf := if_p c4 hf
          refine lv_tableIn (off := 83) (tgt := 84) hx hb dX5_count_1 (by rw [c4]; decide) (by rw [c4]; decide) (by rw [c4]; decide) (by decide) ?_
          refine lv_aload_n hx hb dX5_count_84 rfl (lv_at hl 0 rfl) ?_
          refine va_get (D := D) (ci := 5) (v := .ref na) (C := RX5) (T := TX5) (N := 11) hx hb hts w0 hown hK hP 0 rfl rfl 3 (by decide) w5 (fun _ h9 => h9) rfl dX5_count_85 ?_
          refine va_getN (D := D) (ci := 2) (v := .ref nn) (C := RX2) (T := TX2) (N := 4) hx hb hts w6 hown hK hP 7 rfl rfl 2 (by decide) w8 (fun _ h9 => h9) rfl dX5_count_88 ?_
          refine lv_iconst (v := 0) hx hb dX5_count_91 (by decide) ?_
          refine va_iald hx hb hK hP 14 2 rfl rfl (show iok 0 3 by decide) dX5_count_92 ?_
          refine W.eq (g2 := F0 m 93 ls (.int (nnm 0) :: [])) rfl ?_
          refine lv_bipush (v := 100) hx hb dX5_count_93 (by decide) ?_
          refine lv_iadd hx hb dX5_count_95 ?_
          have h1 := Option.some.inj hf
          subst h1
          rw [hQ]
          exact W.iret (v := ((nnm 0) + 100)) hx hb hr (fun t ht hW => qEnd hP hS ht) hS.2.2 dX5_count_96
        · have hf := if_n c4 hf
          by_cases c5 : k = 4
          · have hf := if_p c5 hf
            refine lv_tableIn (off := 96) (tgt := 97) hx hb dX5_count_1 (by rw [c5]; decide) (by rw [c5]; decide) (by rw [c5]; decide) (by decide) ?_
            refine lv_aload_n hx hb dX5_count_97 rfl (lv_at hl 0 rfl) ?_
            refine va_get (D := D) (ci := 5) (v := .ref na) (C := RX5) (T := TX5) (N := 11) hx hb hts w0 hown hK hP 0 rfl rfl 3 (by decide) w5 (fun _ h9 => h9) rfl dX5_count_98 ?_
            refine va_getN (D := D) (ci := 2) (v := .ref nn) (C := RX2) (T := TX2) (N := 4) hx hb hts w6 hown hK hP 7 rfl rfl 2 (by decide) w8 (fun _ h9 => h9) rfl dX5_count_101 ?_
            refine lv_iconst (v := 1) hx hb dX5_count_104 (by decide) ?_
            refine va_iald hx hb hK hP 14 2 rfl rfl (show iok 1 3 by decide) dX5_count_105 ?_
            refine W.eq (g2 := F0 m 106 ls (.int (nnm 1) :: [])) rfl ?_
            refine lv_bipush (v := 100) hx hb dX5_count_106 (by decide) ?_
            refine lv_iadd hx hb dX5_count_108 ?_
            have h1 := Option.some.inj hf
            subst h1
            rw [hQ]
            exact W.iret (v := ((nnm 1) + 100)) hx hb hr (fun t ht hW => qEnd hP hS ht) hS.2.2 dX5_count_109
          · have hf := if_n c5 hf
            by_cases c6 : k = 5
            · have hf := if_p c6 hf
              refine lv_tableIn (off := 109) (tgt := 110) hx hb dX5_count_1 (by rw [c6]; decide) (by rw [c6]; decide) (by rw [c6]; decide) (by decide) ?_
              refine lv_aload_n hx hb dX5_count_110 rfl (lv_at hl 0 rfl) ?_
              refine va_get (D := D) (ci := 5) (v := .ref na) (C := RX5) (T := TX5) (N := 11) hx hb hts w0 hown hK hP 0 rfl rfl 3 (by decide) w5 (fun _ h9 => h9) rfl dX5_count_111 ?_
              refine va_getN (D := D) (ci := 2) (v := .ref nn) (C := RX2) (T := TX2) (N := 4) hx hb hts w6 hown hK hP 7 rfl rfl 2 (by decide) w8 (fun _ h9 => h9) rfl dX5_count_114 ?_
              refine lv_iconst (v := 2) hx hb dX5_count_117 (by decide) ?_
              refine va_iald hx hb hK hP 14 2 rfl rfl (show iok 2 3 by decide) dX5_count_118 ?_
              refine W.eq (g2 := F0 m 119 ls (.int (nnm 2) :: [])) rfl ?_
              refine lv_bipush (v := 100) hx hb dX5_count_119 (by decide) ?_
              refine lv_iadd hx hb dX5_count_121 ?_
              have h1 := Option.some.inj hf
              subst h1
              rw [hQ]
              exact W.iret (v := ((nnm 2) + 100)) hx hb hr (fun t ht hW => qEnd hP hS ht) hS.2.2 dX5_count_122
            · have hf := if_n c6 hf
              by_cases c7 : k = 6
              · have hf := if_p c7 hf
                refine lv_tableIn (off := 122) (tgt := 123) hx hb dX5_count_1 (by rw [c7]; decide) (by rw [c7]; decide) (by rw [c7]; decide) (by decide) ?_
                refine lv_aload_n hx hb dX5_count_123 rfl (lv_at hl 0 rfl) ?_
                refine va_get (D := D) (ci := 5) (v := .ref fa) (C := RX5) (T := TX5) (N := 11) hx hb hts w0 hown hK hP 0 rfl rfl 1 (by decide) w1 (fun _ h9 => h9) rfl dX5_count_124 ?_
                refine va_getN (D := D) (ci := 0) (v := .int fmk) (C := RX0) (T := TX0) (N := 6) hx hb hts w2 hown hK hP 4 rfl rfl 4 (by decide) w9 (fun _ h9 => h9) rfl dX5_count_127 ?_
                have h1 := Option.some.inj hf
                subst h1
                rw [hQ]
                exact W.iret (v := fmk) hx hb hr (fun t ht hW => qEnd hP hS ht) hS.2.2 dX5_count_130
              · have hf := if_n c7 hf
                by_cases c8 : k = 7
                · have hf := if_p c8 hf
                  refine lv_tableIn (off := 130) (tgt := 131) hx hb dX5_count_1 (by rw [c8]; decide) (by rw [c8]; decide) (by rw [c8]; decide) (by decide) ?_
                  refine lv_aload_n hx hb dX5_count_131 rfl (lv_at hl 0 rfl) ?_
                  refine va_get (D := D) (ci := 5) (v := .ref fa) (C := RX5) (T := TX5) (N := 11) hx hb hts w0 hown hK hP 0 rfl rfl 1 (by decide) w1 (fun _ h9 => h9) rfl dX5_count_132 ?_
                  refine va_getN (D := D) (ci := 0) (v := .int fwt) (C := RX0) (T := TX0) (N := 6) hx hb hts w2 hown hK hP 4 rfl rfl 5 (by decide) w10 (fun _ h9 => h9) rfl dX5_count_135 ?_
                  have h1 := Option.some.inj hf
                  subst h1
                  rw [hQ]
                  exact W.iret (v := fwt) hx hb hr (fun t ht hW => qEnd hP hS ht) hS.2.2 dX5_count_138
                · have hf := if_n c8 hf
                  by_cases c9 : k = 8
                  · have hf := if_p c9 hf
                    refine lv_tableIn (off := 138) (tgt := 139) hx hb dX5_count_1 (by rw [c9]; decide) (by rw [c9]; decide) (by rw [c9]; decide) (by decide) ?_
                    refine lv_aload_n hx hb dX5_count_139 rfl (lv_at hl 0 rfl) ?_
                    obtain ⟨r10, hc11, hf⟩ := bd_inv hf
                    refine xcV (As := []) (rest := []) (ws' := [(xa, .inr (5, [.ref ta, .ref fa, .ref da, .ref na, .ref ga, .ref xp, .ref xs, .ref xi, .ref xh, .int np, .int un])), (ta, .inr (4, [.ref tb, .int tln, .int tcl, .int tts, .int tte, .int tam, .ref tc])), (tb, .inl (cC, 200, .inl tlt)), (tc, .inl (cI, 4, .inl tsv)), (fa, .inr (0, [.int fst, .ref fb, .int fwy, .ref fc, .int fmk, .int fwt])), (fb, .inl (cI, 24, .inl fvl)), (fc, .inl (cI, 84, .inl fpt)), (na, .inr (2, [.ref nla, .ref nua, .ref nn, .int ntr])), (nla, .inr (1, [.int nlst, .int nlla, .int nlbw, .int nlbf, .int nlbd, .ref nlb, .ref nlc])), (nlb, .inl (cF, 6, .inr (.inr (.inl nlsh)))), (nlc, .inl (cF, 6, .inr (.inr (.inl nlsb)))), (nua, .inr (1, [.int nust, .int nula, .int nubw, .int nubf, .int nubd, .ref nub, .ref nuc])), (nub, .inl (cF, 6, .inr (.inr (.inl nush)))), (nuc, .inl (cF, 6, .inr (.inr (.inl nusb)))), (nn, .inl (cI, 3, .inl nnm)), (xh, .inl (cS, 3, .inr (.inr (.inr (.inr (fun j => ([h0a, h1a, h2a] : List Nat)[j]?)))))), (h0a, .inr (3, [.int h0ms, .int h0mf, .int h0pl, .ref h0b])), (h0b, .inl (cI, 8, .inl h0mk)), (h1a, .inr (3, [.int h1ms, .int h1mf, .int h1pl, .ref h1b])), (h1b, .inl (cI, 8, .inl h1mk)), (h2a, .inr (3, [.int h2ms, .int h2mf, .int h2pl, .ref h2b])), (h2b, .inl (cI, 8, .inl h2mk))]) ⟨hx, hb, hml, hown, hts⟩ (c_X5_things l D B adK adV cC cF cI cZ cM cS xa ta fa da na ga xp xs xi xh np un h0a h1a h2a h0ms h0mf h0pl h0b h0mk h1ms h1mf h1pl h1b h1mk h2ms h2mf h2pl h2b h2mk  r10 hc11) (cwV 0 hts gX5_count_X5_things rfl rfl rfl (by decide +kernel) ⟨Nat.le_of_ble_eq_true rfl, Nat.le_of_ble_eq_true rfl⟩) (va_recv hK hP (ci := 5) (q0 := 0) rfl rfl) hK hP hD hS hB hE [0, 15, 16, 17, 18, 19, 20, 21] rfl rfl rfl rfl rfl hl.1 rfl (Nat.le_of_ble_eq_true rfl) dX5_count_140 ⟨Nat.le_of_ble_eq_true rfl, Nat.le_of_ble_eq_true rfl⟩ (fun H locs hP hD hS => ?_)
                    refine W.eq (g2 := F0 m 143 ls [.int r10]) rfl ?_
                    have h1 := Option.some.inj hf
                    subst h1
                    rw [hQ]
                    exact W.iret (v := r10) hx hb hr (fun t ht hW => qEnd hP hS ht) hS.2.2 dX5_count_143
                  · have hf := if_n c9 hf
                    by_cases c12 : k = 9
                    · have hf := if_p c12 hf
                      refine lv_tableIn (off := 143) (tgt := 144) hx hb dX5_count_1 (by rw [c12]; decide) (by rw [c12]; decide) (by rw [c12]; decide) (by decide) ?_
                      refine lv_aload_n hx hb dX5_count_144 rfl (lv_at hl 0 rfl) ?_
                      refine va_get (D := D) (ci := 5) (v := .int un) (C := RX5) (T := TX5) (N := 11) hx hb hts w0 hown hK hP 0 rfl rfl 10 (by decide) w11 (fun _ h9 => h9) rfl dX5_count_145 ?_
                      have h1 := Option.some.inj hf
                      subst h1
                      rw [hQ]
                      exact W.iret (v := un) hx hb hr (fun t ht hW => qEnd hP hS ht) hS.2.2 dX5_count_148
                    · have hf := if_n c12 hf
                      by_cases c13 : k = 10
                      · have hf := if_p c13 hf
                        refine lv_tableIn (off := 148) (tgt := 149) hx hb dX5_count_1 (by rw [c13]; decide) (by rw [c13]; decide) (by rw [c13]; decide) (by decide) ?_
                        refine lv_aload_n hx hb dX5_count_149 rfl (lv_at hl 0 rfl) ?_
                        refine va_get (D := D) (ci := 5) (v := .ref ta) (C := RX5) (T := TX5) (N := 11) hx hb hts w0 hown hK hP 0 rfl rfl 0 (by decide) w12 (fun _ h9 => h9) rfl dX5_count_150 ?_
                        refine va_getN (D := D) (ci := 4) (v := .int tln) (C := RX4) (T := TX4) (N := 7) hx hb hts w13 hown hK hP 1 rfl rfl 1 (by decide) w14 (fun _ h9 => h9) rfl dX5_count_153 ?_
                        have h1 := Option.some.inj hf
                        subst h1
                        rw [hQ]
                        exact W.iret (v := tln) hx hb hr (fun t ht hW => qEnd hP hS ht) hS.2.2 dX5_count_156
                      · have hf := if_n c13 hf
                        refine lv_tableOut (tgt := 157) hx hb dX5_count_1 (by have h0 := lv_neT c1 (a := 0) rfl; have h1 := lv_neT c2 (a := 1) rfl; have h2 := lv_neT c3 (a := 2) rfl; have h3 := lv_neT c4 (a := 3) rfl; have h4 := lv_neT c5 (a := 4) rfl; have h5 := lv_neT c6 (a := 5) rfl; have h6 := lv_neT c7 (a := 6) rfl; have h7 := lv_neT c8 (a := 7) rfl; have h8 := lv_neT c9 (a := 8) rfl; have h9 := lv_neT c12 (a := 9) rfl; have h10 := lv_neT c13 (a := 10) rfl; omega) (by decide) ?_
                        refine lv_bipush (v := (-3)) hx hb dX5_count_157 (by decide) ?_
                        have h1 := Option.some.inj hf
                        subst h1
                        rw [hQ]
                        exact W.iret (v := (-3)) hx hb hr (fun t ht hW => qEnd hP hS ht) hS.2.2 dX5_count_159
