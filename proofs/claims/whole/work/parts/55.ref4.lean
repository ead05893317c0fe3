set_option maxRecDepth 100000 in
set_option maxHeartbeats 4000000 in
theorem c_X6_layer (l : Launch) (D : va_G) (B : Nat) (adK adV : Nat → Nat) (cC cF cI cZ cM cS : ClassId) (ma : Nat) (mst : Int32) (mwy : Int32) (mmk : Int32) (mwt : Int32) (m1 : Nat) (m2 : Nat) (m3 : Nat) (m4 : Nat) (mun : Int32) (m5 : Nat) (m6 : Nat) (mln : Int32) (mfi : Int32) (mbe : Int32) (mrs : Int32) (mrw : Int32) (mcl : Int32) (mdo : Int32) (mnu : Int32) (m7 : Nat) (m8 : Nat) (m9 : Nat) (m10 : Nat) (mvl : Nat → Int32) (mof : Nat → Int32) (mw : Nat → Int32) (mf : Nat → UInt32) (mik : Nat → Int32) (mtx : Nat → Int32) (mwd : Nat → Int32) (msz : Nat → Int32) (mso : Nat → Int32) (mpl : Nat → Int32) (i : Int32) (k : Int32) (zz : Int32) (hf : f_X6_layer mst mw i k = some zz) : Ct l yX6_layer wsX6_layer { frames := 2, cells := 0, slots := 0, locals := 45 } D B adK adV (tysX cC cF cI cZ cM cS) [.ref ma, .int i, .int k] [(ma, .inr (6, [.int mst, .int mwy, .int mmk, .int mwt, .ref m1, .ref m2, .ref m3, .ref m4, .int mun, .ref m5, .ref m6, .int mln, .int mfi, .int mbe, .int mrs, .int mrw, .int mcl, .int mdo, .int mnu, .ref m7, .ref m8, .ref m9, .ref m10])), (m1, .inl (cI, 24, .inl mvl)), (m2, .inl (cI, 96, .inl mof)), (m3, .inl (cI, 168, .inl mw)), (m4, .inl (cF, 288, .inr (.inr (.inl mf)))), (m5, .inl (cZ, 2, .inl mik)), (m6, .inl (cI, 200, .inl mtx)), (m7, .inl (cI, 56, .inl mwd)), (m8, .inl (cI, 3, .inl msz)), (m9, .inl (cI, 3, .inl mso)), (m10, .inl (cI, 24, .inl mpl))] [(ma, .inr (6, [.int mst, .int mwy, .int mmk, .int mwt, .ref m1, .ref m2, .ref m3, .ref m4, .int mun, .ref m5, .ref m6, .int mln, .int mfi, .int mbe, .int mrs, .int mrw, .int mcl, .int mdo, .int mnu, .ref m7, .ref m8, .ref m9, .ref m10])), (m1, .inl (cI, 24, .inl mvl)), (m2, .inl (cI, 96, .inl mof)), (m3, .inl (cI, 168, .inl mw)), (m4, .inl (cF, 288, .inr (.inr (.inl mf)))), (m5, .inl (cZ, 2, .inl mik)), (m6, .inl (cI, 200, .inl mtx)), (m7, .inl (cI, 56, .inl mwd)), (m8, .inl (cI, 3, .inl msz)), (m9, .inl (cI, 3, .inl mso)), (m10, .inl (cI, 24, .inl mpl))] (some (.int zz)) := by
  refine Ct.ofW (cc := cX6_layer) (maxL := 4) (ret := (some .int)) (by decide) rfl (Nat.le_of_ble_eq_true rfl) ?_
  intro p e s m args below meth c hx hb hr hml hts hown hlocks hnm hK hE A Q hQ hB H locs ls hP hD hS hl
  have hl : lv_has ls 4 [(0, .ref ma), (1, .int i), (2, .int k)] := hl
  have w0 := hts (.constantLong RX6 210 (5)) (by decide +kernel)
  have w1 : ∀ w ∈ u_ws RX6 TX6 23, w ∈ wsX6_layer := by decide +kernel
  have w2 := hts (.fieldLink RX6 144 "MotionStatesModel" "states" "I") (by decide +kernel)
  have w3 := hts (.fieldLink RX6 20 "MotionStatesModel" "w" "[I") (by decide +kernel)
  unfold f_X6_layer at hf
  refine lv_iload_n hx hb dX6_layer_0 rfl (lv_at hl 1 rfl) ?_
  obtain ⟨r1, hc2, hf⟩ := bd_inv hf
  refine xcS (As := [.int i]) (rest := []) (ws' := [(ma, .inr (6, [.int mst, .int mwy, .int mmk, .int mwt, .ref m1, .ref m2, .ref m3, .ref m4, .int mun, .ref m5, .ref m6, .int mln, .int mfi, .int mbe, .int mrs, .int mrw, .int mcl, .int mdo, .int mnu, .ref m7, .ref m8, .ref m9, .ref m10])), (m1, .inl (cI, 24, .inl mvl)), (m2, .inl (cI, 96, .inl mof)), (m3, .inl (cI, 168, .inl mw)), (m4, .inl (cF, 288, .inr (.inr (.inl mf)))), (m5, .inl (cZ, 2, .inl mik)), (m6, .inl (cI, 200, .inl mtx)), (m7, .inl (cI, 56, .inl mwd)), (m8, .inl (cI, 3, .inl msz)), (m9, .inl (cI, 3, .inl mso)), (m10, .inl (cI, 24, .inl mpl))]) ⟨hx, hb, hml, hown, hts⟩ (c_X6_isLayer l D B adK adV cC cF cI cZ cM cS i  r1 hc2) (va_cwS 1 hts gX6_layer_X6_isLayer rfl rfl rfl (by decide +kernel) ⟨Nat.le_of_ble_eq_true rfl, Nat.le_of_ble_eq_true rfl⟩) hK hP hD hS hB hE [] rfl rfl rfl rfl rfl hl.1 rfl (Nat.le_of_ble_eq_true rfl) dX6_layer_1 ⟨Nat.le_of_ble_eq_true rfl, Nat.le_of_ble_eq_true rfl⟩ (fun H locs hP hD hS => ?_)
  refine W.eq (g2 := F0 m 4 ls [.int r1]) rfl ?_
  refine lv_if_ne (tgt := 10) hx hb dX6_layer_4 (by decide) (fun c3 => ?_) (fun c3 => ?_)
  · have hf := if_n c3 hf
    refine lv_iload_n hx hb dX6_layer_10 rfl (lv_at hl 2 rfl) ?_
    refine lv_i2l hx hb dX6_layer_11 rfl ?_
    refine lv_lconst (v := 0) hx hb dX6_layer_12 (by decide) ?_
    refine lv_ldc2 hx hb hown w0 dX6_layer_13 ?_
    obtain ⟨r4, hc5, hf⟩ := bd_inv hf
    refine xcS (As := [.long (k.toInt64), .long 0, .long 5]) (rest := []) (ws' := [(ma, .inr (6, [.int mst, .int mwy, .int mmk, .int mwt, .ref m1, .ref m2, .ref m3, .ref m4, .int mun, .ref m5, .ref m6, .int mln, .int mfi, .int mbe, .int mrs, .int mrw, .int mcl, .int mdo, .int mnu, .ref m7, .ref m8, .ref m9, .ref m10])), (m1, .inl (cI, 24, .inl mvl)), (m2, .inl (cI, 96, .inl mof)), (m3, .inl (cI, 168, .inl mw)), (m4, .inl (cF, 288, .inr (.inr (.inl mf)))), (m5, .inl (cZ, 2, .inl mik)), (m6, .inl (cI, 200, .inl mtx)), (m7, .inl (cI, 56, .inl mwd)), (m8, .inl (cI, 3, .inl msz)), (m9, .inl (cI, 3, .inl mso)), (m10, .inl (cI, 24, .inl mpl))]) ⟨hx, hb, hml, hown, hts⟩ (c_X6_in l D B adK adV cC cF cI cZ cM cS (k.toInt64) 0 5  r4 hc5) (va_cwS 3 hts gX6_layer_X6_in rfl rfl rfl (by decide +kernel) ⟨Nat.le_of_ble_eq_true rfl, Nat.le_of_ble_eq_true rfl⟩) hK hP hD hS hB hE [] rfl rfl rfl rfl rfl hl.1 rfl (Nat.le_of_ble_eq_true rfl) dX6_layer_16 ⟨Nat.le_of_ble_eq_true rfl, Nat.le_of_ble_eq_true rfl⟩ (fun H locs hP hD hS => ?_)
    refine W.eq (g2 := F0 m 19 ls [.int r4]) rfl ?_
    refine lv_if_ne (tgt := 25) hx hb dX6_layer_19 (by decide) (fun c6 => ?_) (fun c6 => ?_)
    · have hf := if_n c6 hf
      refine lv_aload_n hx hb dX6_layer_25 rfl (lv_at hl 0 rfl) ?_
      refine va_get (D := D) (ci := 6) (v := .int mst) (C := RX6) (T := TX6) (N := 23) hx hb hts w1 hown hK hP 0 rfl rfl 0 (by decide) w2 (fun _ h9 => h9) rfl dX6_layer_26 ?_
      refine lv_if_ne (tgt := 35) hx hb dX6_layer_29 (by decide) (fun c7 => ?_) (fun c7 => ?_)
      · have hf := if_n c7 hf
        refine lv_iconst (v := 5) hx hb dX6_layer_35 (by decide) ?_
        refine lv_iload_n hx hb dX6_layer_36 rfl (lv_at hl 1 rfl) ?_
        refine lv_imul hx hb dX6_layer_37 ?_
        refine lv_istore_n (lv' := [(3, .int ((5 : Int32) * i)), (0, .ref ma), (1, .int i), (2, .int k)]) hx hb dX6_layer_38 rfl hl (by decide) rfl (fun ls hl => ?_)
        refine lv_iload_n hx hb dX6_layer_39 rfl (lv_at hl 3 rfl) ?_
        refine lv_iconst (v := 4) hx hb dX6_layer_40 (by decide) ?_
        refine lv_icmp_ne (tgt := 64) hx hb dX6_layer_41 (by decide) (fun c8 => ?_) (fun c8 => ?_)
        · have hf := if_n c8 hf
          refine lv_iload_n hx hb dX6_layer_64 rfl (lv_at hl 3 rfl) ?_
          refine lv_iconst (v := 5) hx hb dX6_layer_65 (by decide) ?_
          refine lv_icmp_ne (tgt := 80) hx hb dX6_layer_66 (by decide) (fun c9 => ?_) (fun c9 => ?_)
          · have hf := if_n c9 hf
            refine lv_aload_n hx hb dX6_layer_80 rfl (lv_at hl 1 rfl) ?_
            refine va_get (D := D) (ci := 6) (v := .ref m3) (C := RX6) (T := TX6) (N := 23) hx hb hts w1 hown hK hP 0 rfl rfl 6 (by decide) w3 (fun _ h9 => h9) rfl dX6_layer_81 ?_
            refine lv_iload_n hx hb dX6_layer_84 rfl (lv_at hl 0 rfl) ?_
            refine lv_iload_n hx hb dX6_layer_85 rfl (lv_at hl 3 rfl) ?_
            refine lv_iadd hx hb dX6_layer_86 ?_
            obtain ⟨g10, hf⟩ := gd_inv hf
            refine va_iald hx hb hK hP 3 2 rfl rfl g10 dX6_layer_87 ?_
            have h1 := Option.some.inj hf
            subst h1
            rw [hQ]
            exact W.iret (v := (mw ((((5 : Int32) * i) + k).toNatClampNeg))) hx hb hr (fun t ht hW => qEnd hP hS ht) hS.2.2 dX6_layer_88
          · have hf := if_p c9 hf
            refine lv_aload_n hx hb dX6_layer_69 rfl (lv_at hl 1 rfl) ?_
            refine va_get (D := D) (ci := 6) (v := .ref m3) (C := RX6) (T := TX6) (N := 23) hx hb hts w1 hown hK hP 0 rfl rfl 6 (by decide) w3 (fun _ h9 => h9) rfl dX6_layer_70 ?_
            refine lv_iload_n hx hb dX6_layer_73 rfl (lv_at hl 0 rfl) ?_
            refine lv_iconst (v := 4) hx hb dX6_layer_74 (by decide) ?_
            refine lv_iadd hx hb dX6_layer_75 ?_
            obtain ⟨g11, hf⟩ := gd_inv hf
            refine va_iald hx hb hK hP 3 2 rfl rfl g11 dX6_layer_76 ?_
            refine lv_goto (tgt := 88) hx hb dX6_layer_77 (by decide) ?_
            have h1 := Option.some.inj hf
            subst h1
            rw [hQ]
            exact W.iret (v := (mw ((((5 : Int32) * i) + 4).toNatClampNeg))) hx hb hr (fun t ht hW => qEnd hP hS ht) hS.2.2 dX6_layer_88
        · have hf := if_p c8 hf
          refine lv_aload_n hx hb dX6_layer_44 rfl (lv_at hl 1 rfl) ?_
          refine va_get (D := D) (ci := 6) (v := .ref m3) (C := RX6) (T := TX6) (N := 23) hx hb hts w1 hown hK hP 0 rfl rfl 6 (by decide) w3 (fun _ h9 => h9) rfl dX6_layer_45 ?_
          refine lv_iload_n hx hb dX6_layer_48 rfl (lv_at hl 0 rfl) ?_
          refine lv_iconst (v := 4) hx hb dX6_layer_49 (by decide) ?_
          refine lv_iadd hx hb dX6_layer_50 ?_
          obtain ⟨g12, hf⟩ := gd_inv hf
          refine va_iald hx hb hK hP 3 2 rfl rfl g12 dX6_layer_51 ?_
          refine lv_iconst (v := (-1)) hx hb dX6_layer_52 (by decide) ?_
          refine lv_icmp_ne (tgt := 60) hx hb dX6_layer_53 (by decide) (fun c13 => ?_) (fun c13 => ?_)
          · have hf := if_n c13 hf
            refine lv_iconst (v := 0) hx hb dX6_layer_60 (by decide) ?_
            refine lv_goto (tgt := 88) hx hb dX6_layer_61 (by decide) ?_
            have h1 := Option.some.inj hf
            subst h1
            rw [hQ]
            exact W.iret (v := 0) hx hb hr (fun t ht hW => qEnd hP hS ht) hS.2.2 dX6_layer_88
          · have hf := if_p c13 hf
            refine lv_iconst (v := 1) hx hb dX6_layer_56 (by decide) ?_
            refine lv_goto (tgt := 88) hx hb dX6_layer_57 (by decide) ?_
            have h1 := Option.some.inj hf
            subst h1
            rw [hQ]
            exact W.iret (v := 1) hx hb hr (fun t ht hW => qEnd hP hS ht) hS.2.2 dX6_layer_88
      · have hf := if_p c7 hf
        refine lv_bipush (v := (-4)) hx hb dX6_layer_32 (by decide) ?_
        have h1 := Option.some.inj hf
        subst h1
        rw [hQ]
        exact W.iret (v := (-4)) hx hb hr (fun t ht hW => qEnd hP hS ht) hS.2.2 dX6_layer_34
    · have hf := if_p c6 hf
      refine lv_bipush (v := (-3)) hx hb dX6_layer_22 (by decide) ?_
      have h1 := Option.some.inj hf
      subst h1
      rw [hQ]
      exact W.iret (v := (-3)) hx hb hr (fun t ht hW => qEnd hP hS ht) hS.2.2 dX6_layer_24
  · have hf := if_p c3 hf
    refine lv_bipush (v := (-2)) hx hb dX6_layer_7 (by decide) ?_
    have h1 := Option.some.inj hf
    subst h1
    rw [hQ]
    exact W.iret (v := (-2)) hx hb hr (fun t ht hW => qEnd hP hS ht) hS.2.2 dX6_layer_9
set_option maxRecDepth 100000 in
set_option maxHeartbeats 4000000 in
theorem c_X6_share (l : Launch) (D : va_G) (B : Nat) (adK adV : Nat → Nat) (cC cF cI cZ cM cS : ClassId) (ma : Nat) (mst : Int32) (mwy : Int32) (mmk : Int32) (mwt : Int32) (m1 : Nat) (m2 : Nat) (m3 : Nat) (m4 : Nat) (mun : Int32) (m5 : Nat) (m6 : Nat) (mln : Int32) (mfi : Int32) (mbe : Int32) (mrs : Int32) (mrw : Int32) (mcl : Int32) (mdo : Int32) (mnu : Int32) (m7 : Nat) (m8 : Nat) (m9 : Nat) (m10 : Nat) (mvl : Nat → Int32) (mof : Nat → Int32) (mw : Nat → Int32) (mf : Nat → UInt32) (mik : Nat → Int32) (mtx : Nat → Int32) (mwd : Nat → Int32) (msz : Nat → Int32) (mso : Nat → Int32) (mpl : Nat → Int32) (i : Int32) (k : Int32) (zz : Int32) (hf : f_X6_share mst mf i k = some zz) : Ct l yX6_share wsX6_share { frames := 2, cells := 0, slots := 0, locals := 46 } D B adK adV (tysX cC cF cI cZ cM cS) [.ref ma, .int i, .int k] [(ma, .inr (6, [.int mst, .int mwy, .int mmk, .int mwt, .ref m1, .ref m2, .ref m3, .ref m4, .int mun, .ref m5, .ref m6, .int mln, .int mfi, .int mbe, .int mrs, .int mrw, .int mcl, .int mdo, .int mnu, .ref m7, .ref m8, .ref m9, .ref m10])), (m1, .inl (cI, 24, .inl mvl)), (m2, .inl (cI, 96, .inl mof)), (m3, .inl (cI, 168, .inl mw)), (m4, .inl (cF, 288, .inr (.inr (.inl mf)))), (m5, .inl (cZ, 2, .inl mik)), (m6, .inl (cI, 200, .inl mtx)), (m7, .inl (cI, 56, .inl mwd)), (m8, .inl (cI, 3, .inl msz)), (m9, .inl (cI, 3, .inl mso)), (m10, .inl (cI, 24, .inl mpl))] [(ma, .inr (6, [.int mst, .int mwy, .int mmk, .int mwt, .ref m1, .ref m2, .ref m3, .ref m4, .int mun, .ref m5, .ref m6, .int mln, .int mfi, .int mbe, .int mrs, .int mrw, .int mcl, .int mdo, .int mnu, .ref m7, .ref m8, .ref m9, .ref m10])), (m1, .inl (cI, 24, .inl mvl)), (m2, .inl (cI, 96, .inl mof)), (m3, .inl (cI, 168, .inl mw)), (m4, .inl (cF, 288, .inr (.inr (.inl mf)))), (m5, .inl (cZ, 2, .inl mik)), (m6, .inl (cI, 200, .inl mtx)), (m7, .inl (cI, 56, .inl mwd)), (m8, .inl (cI, 3, .inl msz)), (m9, .inl (cI, 3, .inl mso)), (m10, .inl (cI, 24, .inl mpl))] (some (.int zz)) := by
  refine Ct.ofW (cc := cX6_share) (maxL := 3) (ret := (some .int)) (by decide) rfl (Nat.le_of_ble_eq_true rfl) ?_
  intro p e s m args below meth c hx hb hr hml hts hown hlocks hnm hK hE A Q hQ hB H locs ls hP hD hS hl
  have hl : lv_has ls 3 [(0, .ref ma), (1, .int i), (2, .int k)] := hl
  have w0 : ∀ w ∈ u_ws RX6 TX6 23, w ∈ wsX6_share := by decide +kernel
  have w1 := hts (.fieldLink RX6 23 "MotionStatesModel" "f" "[F") (by decide +kernel)
  have w2 := hts (.constantFloat RX6 212 (1199570944)) (by decide +kernel)
  unfold f_X6_share at hf
  refine lv_iload_n hx hb dX6_share_0 rfl (lv_at hl 1 rfl) ?_
  obtain ⟨r1, hc2, hf⟩ := bd_inv hf
  refine xcS (As := [.int i]) (rest := []) (ws' := [(ma, .inr (6, [.int mst, .int mwy, .int mmk, .int mwt, .ref m1, .ref m2, .ref m3, .ref m4, .int mun, .ref m5, .ref m6, .int mln, .int mfi, .int mbe, .int mrs, .int mrw, .int mcl, .int mdo, .int mnu, .ref m7, .ref m8, .ref m9, .ref m10])), (m1, .inl (cI, 24, .inl mvl)), (m2, .inl (cI, 96, .inl mof)), (m3, .inl (cI, 168, .inl mw)), (m4, .inl (cF, 288, .inr (.inr (.inl mf)))), (m5, .inl (cZ, 2, .inl mik)), (m6, .inl (cI, 200, .inl mtx)), (m7, .inl (cI, 56, .inl mwd)), (m8, .inl (cI, 3, .inl msz)), (m9, .inl (cI, 3, .inl mso)), (m10, .inl (cI, 24, .inl mpl))]) ⟨hx, hb, hml, hown, hts⟩ (c_X6_isLayer l D B adK adV cC cF cI cZ cM cS i  r1 hc2) (va_cwS 1 hts gX6_share_X6_isLayer rfl rfl rfl (by decide +kernel) ⟨Nat.le_of_ble_eq_true rfl, Nat.le_of_ble_eq_true rfl⟩) hK hP hD hS hB hE [] rfl rfl rfl rfl rfl hl.1 rfl (Nat.le_of_ble_eq_true rfl) dX6_share_1 ⟨Nat.le_of_ble_eq_true rfl, Nat.le_of_ble_eq_true rfl⟩ (fun H locs hP hD hS => ?_)
  refine W.eq (g2 := F0 m 4 ls [.int r1]) rfl ?_
  refine lv_if_eq (tgt := 33) hx hb dX6_share_4 (by decide) (fun c3 => ?_) (fun c3 => ?_)
  · have hf := if_p c3 hf
    refine lv_bipush (v := (-2)) hx hb dX6_share_33 (by decide) ?_
    have h1 := Option.some.inj hf
    subst h1
    rw [hQ]
    exact W.iret (v := (-2)) hx hb hr (fun t ht hW => qEnd hP hS ht) hS.2.2 dX6_share_35
  · have hf := if_n c3 hf
    refine lv_aload_n hx hb dX6_share_7 rfl (lv_at hl 0 rfl) ?_
    refine lv_iload_n hx hb dX6_share_8 rfl (lv_at hl 2 rfl) ?_
    obtain ⟨r4, hc5, hf⟩ := bd_inv hf
    refine xcV (As := [.int k]) (rest := []) (ws' := [(ma, .inr (6, [.int mst, .int mwy, .int mmk, .int mwt, .ref m1, .ref m2, .ref m3, .ref m4, .int mun, .ref m5, .ref m6, .int mln, .int mfi, .int mbe, .int mrs, .int mrw, .int mcl, .int mdo, .int mnu, .ref m7, .ref m8, .ref m9, .ref m10])), (m1, .inl (cI, 24, .inl mvl)), (m2, .inl (cI, 96, .inl mof)), (m3, .inl (cI, 168, .inl mw)), (m4, .inl (cF, 288, .inr (.inr (.inl mf)))), (m5, .inl (cZ, 2, .inl mik)), (m6, .inl (cI, 200, .inl mtx)), (m7, .inl (cI, 56, .inl mwd)), (m8, .inl (cI, 3, .inl msz)), (m9, .inl (cI, 3, .inl mso)), (m10, .inl (cI, 24, .inl mpl))]) ⟨hx, hb, hml, hown, hts⟩ (c_X6_isState l D B adK adV cC cF cI cZ cM cS ma mst mwy mmk mwt m1 m2 m3 m4 mun m5 m6 mln mfi mbe mrs mrw mcl mdo mnu m7 m8 m9 m10 mvl mof mw mf mik mtx mwd msz mso mpl k  r4 hc5) (cwV 1 hts gX6_share_X6_isState rfl rfl rfl (by decide +kernel) ⟨Nat.le_of_ble_eq_true rfl, Nat.le_of_ble_eq_true rfl⟩) (va_recv hK hP (ci := 6) (q0 := 0) rfl rfl) hK hP hD hS hB hE [0, 1, 2, 3, 4, 5, 6, 7, 8, 9, 10] rfl rfl rfl rfl rfl hl.1 rfl (Nat.le_of_ble_eq_true rfl) dX6_share_9 ⟨Nat.le_of_ble_eq_true rfl, Nat.le_of_ble_eq_true rfl⟩ (fun H locs hP hD hS => ?_)
    refine W.eq (g2 := F0 m 12 ls [.int r4]) rfl ?_
    refine lv_if_eq (tgt := 33) hx hb dX6_share_12 (by decide) (fun c6 => ?_) (fun c6 => ?_)
    · have hf := if_p c6 hf
      refine lv_bipush (v := (-2)) hx hb dX6_share_33 (by decide) ?_
      have h1 := Option.some.inj hf
      subst h1
      rw [hQ]
      exact W.iret (v := (-2)) hx hb hr (fun t ht hW => qEnd hP hS ht) hS.2.2 dX6_share_35
    · have hf := if_n c6 hf
      refine lv_aload_n hx hb dX6_share_15 rfl (lv_at hl 0 rfl) ?_
      refine va_get (D := D) (ci := 6) (v := .ref m4) (C := RX6) (T := TX6) (N := 23) hx hb hts w0 hown hK hP 0 rfl rfl 7 (by decide) w1 (fun _ h9 => h9) rfl dX6_share_16 ?_
      refine lv_bipush (v := 6) hx hb dX6_share_19 (by decide) ?_
      refine lv_iload_n hx hb dX6_share_21 rfl (lv_at hl 1 rfl) ?_
      refine lv_imul hx hb dX6_share_22 ?_
      refine lv_iload_n hx hb dX6_share_23 rfl (lv_at hl 2 rfl) ?_
      refine lv_iadd hx hb dX6_share_24 ?_
      obtain ⟨g7, hf⟩ := gd_inv hf
      refine va_fald hx hb hK hP 4 1 rfl rfl g7 dX6_share_25 ?_
      refine lv_ldcf hx hb hown w2 dX6_share_26 ?_
      obtain ⟨g8, hf⟩ := gd_inv hf
      refine lv_fmul hx hb dX6_share_28 g8 ?_
      refine lv_f2i hx hb dX6_share_29 ?_
      refine lv_goto (tgt := 35) hx hb dX6_share_30 (by decide) ?_
      have h1 := Option.some.inj hf
      subst h1
      rw [hQ]
      exact W.iret (v := (FP.f2i (FP.fmul (mf ((((6 : Int32) * i) + k).toNatClampNeg)) 1199570944))) hx hb hr (fun t ht hW => qEnd hP hS ht) hS.2.2 dX6_share_35
set_option maxRecDepth 100000 in
set_option maxHeartbeats 4000000 in
theorem c_X6_bits (l : Launch) (D : va_G) (B : Nat) (adK adV : Nat → Nat) (cC cF cI cZ cM cS : ClassId) (ma : Nat) (mst : Int32) (mwy : Int32) (mmk : Int32) (mwt : Int32) (m1 : Nat) (m2 : Nat) (m3 : Nat) (m4 : Nat) (mun : Int32) (m5 : Nat) (m6 : Nat) (mln : Int32) (mfi : Int32) (mbe : Int32) (mrs : Int32) (mrw : Int32) (mcl : Int32) (mdo : Int32) (mnu : Int32) (m7 : Nat) (m8 : Nat) (m9 : Nat) (m10 : Nat) (mvl : Nat → Int32) (mof : Nat → Int32) (mw : Nat → Int32) (mf : Nat → UInt32) (mik : Nat → Int32) (mtx : Nat → Int32) (mwd : Nat → Int32) (msz : Nat → Int32) (mso : Nat → Int32) (mpl : Nat → Int32) (i : Int32) (k : Int32) (zz : Int32) (hf : f_X6_bits mst mf i k = some zz) : Ct l yX6_bits wsX6_bits { frames := 2, cells := 0, slots := 0, locals := 46 } D B adK adV (tysX cC cF cI cZ cM cS) [.ref ma, .int i, .int k] [(ma, .inr (6, [.int mst, .int mwy, .int mmk, .int mwt, .ref m1, .ref m2, .ref m3, .ref m4, .int mun, .ref m5, .ref m6, .int mln, .int mfi, .int mbe, .int mrs, .int mrw, .int mcl, .int mdo, .int mnu, .ref m7, .ref m8, .ref m9, .ref m10])), (m1, .inl (cI, 24, .inl mvl)), (m2, .inl (cI, 96, .inl mof)), (m3, .inl (cI, 168, .inl mw)), (m4, .inl (cF, 288, .inr (.inr (.inl mf)))), (m5, .inl (cZ, 2, .inl mik)), (m6, .inl (cI, 200, .inl mtx)), (m7, .inl (cI, 56, .inl mwd)), (m8, .inl (cI, 3, .inl msz)), (m9, .inl (cI, 3, .inl mso)), (m10, .inl (cI, 24, .inl mpl))] [(ma, .inr (6, [.int mst, .int mwy, .int mmk, .int mwt, .ref m1, .ref m2, .ref m3, .ref m4, .int mun, .ref m5, .ref m6, .int mln, .int mfi, .int mbe, .int mrs, .int mrw, .int mcl, .int mdo, .int mnu, .ref m7, .ref m8, .ref m9, .ref m10])), (m1, .inl (cI, 24, .inl mvl)), (m2, .inl (cI, 96, .inl mof)), (m3, .inl (cI, 168, .inl mw)), (m4, .inl (cF, 288, .inr (.inr (.inl mf)))), (m5, .inl (cZ, 2, .inl mik)), (m6, .inl (cI, 200, .inl mtx)), (m7, .inl (cI, 56, .inl mwd)), (m8, .inl (cI, 3, .inl msz)), (m9, .inl (cI, 3, .inl mso)), (m10, .inl (cI, 24, .inl mpl))] (some (.int zz)) := by
  refine Ct.ofW (cc := cX6_bits) (maxL := 3) (ret := (some .int)) (by decide) rfl (Nat.le_of_ble_eq_true rfl) ?_
  intro p e s m args below meth c hx hb hr hml hts hown hlocks hnm hK hE A Q hQ hB H locs ls hP hD hS hl
  have hl : lv_has ls 3 [(0, .ref ma), (1, .int i), (2, .int k)] := hl
  have w0 : ∀ w ∈ u_ws RX6 TX6 23, w ∈ wsX6_bits := by decide +kernel
  have w1 := hts (.fieldLink RX6 23 "MotionStatesModel" "f" "[F") (by decide +kernel)
  unfold f_X6_bits at hf
  refine lv_iload_n hx hb dX6_bits_0 rfl (lv_at hl 1 rfl) ?_
  obtain ⟨r1, hc2, hf⟩ := bd_inv hf
  refine xcS (As := [.int i]) (rest := []) (ws' := [(ma, .inr (6, [.int mst, .int mwy, .int mmk, .int mwt, .ref m1, .ref m2, .ref m3, .ref m4, .int mun, .ref m5, .ref m6, .int mln, .int mfi, .int mbe, .int mrs, .int mrw, .int mcl, .int mdo, .int mnu, .ref m7, .ref m8, .ref m9, .ref m10])), (m1, .inl (cI, 24, .inl mvl)), (m2, .inl (cI, 96, .inl mof)), (m3, .inl (cI, 168, .inl mw)), (m4, .inl (cF, 288, .inr (.inr (.inl mf)))), (m5, .inl (cZ, 2, .inl mik)), (m6, .inl (cI, 200, .inl mtx)), (m7, .inl (cI, 56, .inl mwd)), (m8, .inl (cI, 3, .inl msz)), (m9, .inl (cI, 3, .inl mso)), (m10, .inl (cI, 24, .inl mpl))]) ⟨hx, hb, hml, hown, hts⟩ (c_X6_isLayer l D B adK adV cC cF cI cZ cM cS i  r1 hc2) (va_cwS 1 hts gX6_bits_X6_isLayer rfl rfl rfl (by decide +kernel) ⟨Nat.le_of_ble_eq_true rfl, Nat.le_of_ble_eq_true rfl⟩) hK hP hD hS hB hE [] rfl rfl rfl rfl rfl hl.1 rfl (Nat.le_of_ble_eq_true rfl) dX6_bits_1 ⟨Nat.le_of_ble_eq_true rfl, Nat.le_of_ble_eq_true rfl⟩ (fun H locs hP hD hS => ?_)
  refine W.eq (g2 := F0 m 4 ls [.int r1]) rfl ?_
  refine lv_if_eq (tgt := 32) hx hb dX6_bits_4 (by decide) (fun c3 => ?_) (fun c3 => ?_)
  · have hf := if_p c3 hf
    refine lv_bipush (v := (-2)) hx hb dX6_bits_32 (by decide) ?_
    have h1 := Option.some.inj hf
    subst h1
    rw [hQ]
    exact W.iret (v := (-2)) hx hb hr (fun t ht hW => qEnd hP hS ht) hS.2.2 dX6_bits_34
  · have hf := if_n c3 hf
    refine lv_aload_n hx hb dX6_bits_7 rfl (lv_at hl 0 rfl) ?_
    refine lv_iload_n hx hb dX6_bits_8 rfl (lv_at hl 2 rfl) ?_
    obtain ⟨r4, hc5, hf⟩ := bd_inv hf
    refine xcV (As := [.int k]) (rest := []) (ws' := [(ma, .inr (6, [.int mst, .int mwy, .int mmk, .int mwt, .ref m1, .ref m2, .ref m3, .ref m4, .int mun, .ref m5, .ref m6, .int mln, .int mfi, .int mbe, .int mrs, .int mrw, .int mcl, .int mdo, .int mnu, .ref m7, .ref m8, .ref m9, .ref m10])), (m1, .inl (cI, 24, .inl mvl)), (m2, .inl (cI, 96, .inl mof)), (m3, .inl (cI, 168, .inl mw)), (m4, .inl (cF, 288, .inr (.inr (.inl mf)))), (m5, .inl (cZ, 2, .inl mik)), (m6, .inl (cI, 200, .inl mtx)), (m7, .inl (cI, 56, .inl mwd)), (m8, .inl (cI, 3, .inl msz)), (m9, .inl (cI, 3, .inl mso)), (m10, .inl (cI, 24, .inl mpl))]) ⟨hx, hb, hml, hown, hts⟩ (c_X6_isState l D B adK adV cC cF cI cZ cM cS ma mst mwy mmk mwt m1 m2 m3 m4 mun m5 m6 mln mfi mbe mrs mrw mcl mdo mnu m7 m8 m9 m10 mvl mof mw mf mik mtx mwd msz mso mpl k  r4 hc5) (cwV 1 hts gX6_bits_X6_isState rfl rfl rfl (by decide +kernel) ⟨Nat.le_of_ble_eq_true rfl, Nat.le_of_ble_eq_true rfl⟩) (va_recv hK hP (ci := 6) (q0 := 0) rfl rfl) hK hP hD hS hB hE [0, 1, 2, 3, 4, 5, 6, 7, 8, 9, 10] rfl rfl rfl rfl rfl hl.1 rfl (Nat.le_of_ble_eq_true rfl) dX6_bits_9 ⟨Nat.le_of_ble_eq_true rfl, Nat.le_of_ble_eq_true rfl⟩ (fun H locs hP hD hS => ?_)
    refine W.eq (g2 := F0 m 12 ls [.int r4]) rfl ?_
    refine lv_if_eq (tgt := 32) hx hb dX6_bits_12 (by decide) (fun c6 => ?_) (fun c6 => ?_)
    · have hf := if_p c6 hf
      refine lv_bipush (v := (-2)) hx hb dX6_bits_32 (by decide) ?_
      have h1 := Option.some.inj hf
      subst h1
      rw [hQ]
      exact W.iret (v := (-2)) hx hb hr (fun t ht hW => qEnd hP hS ht) hS.2.2 dX6_bits_34
    · have hf := if_n c6 hf
      refine lv_aload_n hx hb dX6_bits_15 rfl (lv_at hl 0 rfl) ?_
      refine va_get (D := D) (ci := 6) (v := .ref m4) (C := RX6) (T := TX6) (N := 23) hx hb hts w0 hown hK hP 0 rfl rfl 7 (by decide) w1 (fun _ h9 => h9) rfl dX6_bits_16 ?_
      refine lv_bipush (v := 6) hx hb dX6_bits_19 (by decide) ?_
      refine lv_iload_n hx hb dX6_bits_21 rfl (lv_at hl 1 rfl) ?_
      refine lv_imul hx hb dX6_bits_22 ?_
      refine lv_iload_n hx hb dX6_bits_23 rfl (lv_at hl 2 rfl) ?_
      refine lv_iadd hx hb dX6_bits_24 ?_
      obtain ⟨g7, hf⟩ := gd_inv hf
      refine va_fald hx hb hK hP 4 1 rfl rfl g7 dX6_bits_25 ?_
      obtain ⟨r8, hc9, hf⟩ := bd_inv hf
      refine xcS (As := [.float (mf ((((6 : Int32) * i) + k).toNatClampNeg))]) (rest := []) (ws' := [(ma, .inr (6, [.int mst, .int mwy, .int mmk, .int mwt, .ref m1, .ref m2, .ref m3, .ref m4, .int mun, .ref m5, .ref m6, .int mln, .int mfi, .int mbe, .int mrs, .int mrw, .int mcl, .int mdo, .int mnu, .ref m7, .ref m8, .ref m9, .ref m10])), (m1, .inl (cI, 24, .inl mvl)), (m2, .inl (cI, 96, .inl mof)), (m3, .inl (cI, 168, .inl mw)), (m4, .inl (cF, 288, .inr (.inr (.inl mf)))), (m5, .inl (cZ, 2, .inl mik)), (m6, .inl (cI, 200, .inl mtx)), (m7, .inl (cI, 56, .inl mwd)), (m8, .inl (cI, 3, .inl msz)), (m9, .inl (cI, 3, .inl mso)), (m10, .inl (cI, 24, .inl mpl))]) ⟨hx, hb, hml, hown, hts⟩ (c_Jxf58ca_floatToIntBits_5c35a l D B adK adV cC cF cI cZ cM cS (mf ((((6 : Int32) * i) + k).toNatClampNeg))  r8 hc9) (va_cwS 1 hts gX6_bits_Jxf58ca_floatToIntBits_5c35a rfl rfl rfl (by decide +kernel) ⟨Nat.le_of_ble_eq_true rfl, Nat.le_of_ble_eq_true rfl⟩) hK hP hD hS hB hE [] rfl rfl rfl rfl rfl hl.1 rfl (Nat.le_of_ble_eq_true rfl) dX6_bits_26 ⟨Nat.le_of_ble_eq_true rfl, Nat.le_of_ble_eq_true rfl⟩ (fun H locs hP hD hS => ?_)
      refine W.eq (g2 := F0 m 29 ls [.int r8]) rfl ?_
      refine lv_goto (tgt := 34) hx hb dX6_bits_29 (by decide) ?_
      have h1 := Option.some.inj hf
      subst h1
      rw [hQ]
      exact W.iret (v := r8) hx hb hr (fun t ht hW => qEnd hP hS ht) hS.2.2 dX6_bits_34
set_option maxRecDepth 100000 in
set_option maxHeartbeats 4000000 in
theorem c_X6_limbOf (l : Launch) (D : va_G) (B : Nat) (adK adV : Nat → Nat) (cC cF cI cZ cM cS : ClassId) (ma : Nat) (mst : Int32) (mwy : Int32) (mmk : Int32) (mwt : Int32) (m1 : Nat) (m2 : Nat) (m3 : Nat) (m4 : Nat) (mun : Int32) (m5 : Nat) (m6 : Nat) (mln : Int32) (mfi : Int32) (mbe : Int32) (mrs : Int32) (mrw : Int32) (mcl : Int32) (mdo : Int32) (mnu : Int32) (m7 : Nat) (m8 : Nat) (m9 : Nat) (m10 : Nat) (mvl : Nat → Int32) (mof : Nat → Int32) (mw : Nat → Int32) (mf : Nat → UInt32) (mik : Nat → Int32) (mtx : Nat → Int32) (mwd : Nat → Int32) (msz : Nat → Int32) (mso : Nat → Int32) (mpl : Nat → Int32) (i : Int32) (k : Int32) (zz : UInt32) (hf : f_X6_limbOf mst mvl mf i k = some zz) : Ct l yX6_limbOf wsX6_limbOf { frames := 0, cells := 0, slots := 0, locals := 0 } D B adK adV (tysX cC cF cI cZ cM cS) [.ref ma, .int i, .int k] [(ma, .inr (6, [.int mst, .int mwy, .int mmk, .int mwt, .ref m1, .ref m2, .ref m3, .ref m4, .int mun, .ref m5, .ref m6, .int mln, .int mfi, .int mbe, .int mrs, .int mrw, .int mcl, .int mdo, .int mnu, .ref m7, .ref m8, .ref m9, .ref m10])), (m1, .inl (cI, 24, .inl mvl)), (m2, .inl (cI, 96, .inl mof)), (m3, .inl (cI, 168, .inl mw)), (m4, .inl (cF, 288, .inr (.inr (.inl mf)))), (m5, .inl (cZ, 2, .inl mik)), (m6, .inl (cI, 200, .inl mtx)), (m7, .inl (cI, 56, .inl mwd)), (m8, .inl (cI, 3, .inl msz)), (m9, .inl (cI, 3, .inl mso)), (m10, .inl (cI, 24, .inl mpl))] [(ma, .inr (6, [.int mst, .int mwy, .int mmk, .int mwt, .ref m1, .ref m2, .ref m3, .ref m4, .int mun, .ref m5, .ref m6, .int mln, .int mfi, .int mbe, .int mrs, .int mrw, .int mcl, .int mdo, .int mnu, .ref m7, .ref m8, .ref m9, .ref m10])), (m1, .inl (cI, 24, .inl mvl)), (m2, .inl (cI, 96, .inl mof)), (m3, .inl (cI, 168, .inl mw)), (m4, .inl (cF, 288, .inr (.inr (.inl mf)))), (m5, .inl (cZ, 2, .inl mik)), (m6, .inl (cI, 200, .inl mtx)), (m7, .inl (cI, 56, .inl mwd)), (m8, .inl (cI, 3, .inl msz)), (m9, .inl (cI, 3, .inl mso)), (m10, .inl (cI, 24, .inl mpl))] (some (.float zz)) := by
  refine Ct.ofW (cc := cX6_limbOf) (maxL := 6) (ret := (some .float)) (by decide) rfl (Nat.le_of_ble_eq_true rfl) ?_
  intro p e s m args below meth c hx hb hr hml hts hown hlocks hnm hK hE A Q hQ hB H locs ls hP hD hS hl
  have hl : lv_has ls 6 [(0, .ref ma), (1, .int i), (2, .int k)] := hl
  have w0 : ∀ w ∈ u_ws RX6 TX6 23, w ∈ wsX6_limbOf := by decide +kernel
  have w1 := hts (.fieldLink RX6 144 "MotionStatesModel" "states" "I") (by decide +kernel)
  have w2 := hts (.fieldLink RX6 13 "MotionStatesModel" "values" "[I") (by decide +kernel)
  have w3 := hts (.constantFloat RX6 219 (1082130432)) (by decide +kernel)
  have w4 := hts (.fieldLink RX6 23 "MotionStatesModel" "f" "[F") (by decide +kernel)
  have L5 : ∀ (n : Nat) (x4_5 : Int32) (x3_5 : UInt32) (oo : Int32 × UInt32), f_X6_limbOf_L5 mst k mvl i mf n x4_5 x3_5 = some oo → ∀ (H : Heap) (locs : List Loc) (ls : Array Slot), va_P D vwCl [(ma, .inr (6, [.int mst, .int mwy, .int mmk, .int mwt, .ref m1, .ref m2, .ref m3, .ref m4, .int mun, .ref m5, .ref m6, .int mln, .int mfi, .int mbe, .int mrs, .int mrw, .int mcl, .int mdo, .int mnu, .ref m7, .ref m8, .ref m9, .ref m10])), (m1, .inl (cI, 24, .inl mvl)), (m2, .inl (cI, 96, .inl mof)), (m3, .inl (cI, 168, .inl mw)), (m4, .inl (cF, 288, .inr (.inr (.inl mf)))), (m5, .inl (cZ, 2, .inl mik)), (m6, .inl (cI, 200, .inl mtx)), (m7, .inl (cI, 56, .inl mwd)), (m8, .inl (cI, 3, .inl msz)), (m9, .inl (cI, 3, .inl mso)), (m10, .inl (cI, 24, .inl mpl))] H → va_D A [(ma, .inr (6, [.int mst, .int mwy, .int mmk, .int mwt, .ref m1, .ref m2, .ref m3, .ref m4, .int mun, .ref m5, .ref m6, .int mln, .int mfi, .int mbe, .int mrs, .int mrw, .int mcl, .int mdo, .int mnu, .ref m7, .ref m8, .ref m9, .ref m10])), (m1, .inl (cI, 24, .inl mvl)), (m2, .inl (cI, 96, .inl mof)), (m3, .inl (cI, 168, .inl mw)), (m4, .inl (cF, 288, .inr (.inr (.inl mf)))), (m5, .inl (cZ, 2, .inl mik)), (m6, .inl (cI, 200, .inl mtx)), (m7, .inl (cI, 56, .inl mwd)), (m8, .inl (cI, 3, .inl msz)), (m9, .inl (cI, 3, .inl mso)), (m10, .inl (cI, 24, .inl mpl))] → va_S A s.heap H locs → lv_has ls 6 [(4, .int x4_5), (3, .float x3_5), (0, .ref ma), (1, .int i), (2, .int k)] → (∀ (H : Heap) (locs : List Loc) (ls : Array Slot), va_P D vwCl [(ma, .inr (6, [.int mst, .int mwy, .int mmk, .int mwt, .ref m1, .ref m2, .ref m3, .ref m4, .int mun, .ref m5, .ref m6, .int mln, .int mfi, .int mbe, .int mrs, .int mrw, .int mcl, .int mdo, .int mnu, .ref m7, .ref m8, .ref m9, .ref m10])), (m1, .inl (cI, 24, .inl mvl)), (m2, .inl (cI, 96, .inl mof)), (m3, .inl (cI, 168, .inl mw)), (m4, .inl (cF, 288, .inr (.inr (.inl mf)))), (m5, .inl (cZ, 2, .inl mik)), (m6, .inl (cI, 200, .inl mtx)), (m7, .inl (cI, 56, .inl mwd)), (m8, .inl (cI, 3, .inl msz)), (m9, .inl (cI, 3, .inl mso)), (m10, .inl (cI, 24, .inl mpl))] H → va_D A [(ma, .inr (6, [.int mst, .int mwy, .int mmk, .int mwt, .ref m1, .ref m2, .ref m3, .ref m4, .int mun, .ref m5, .ref m6, .int mln, .int mfi, .int mbe, .int mrs, .int mrw, .int mcl, .int mdo, .int mnu, .ref m7, .ref m8, .ref m9, .ref m10])), (m1, .inl (cI, 24, .inl mvl)), (m2, .inl (cI, 96, .inl mof)), (m3, .inl (cI, 168, .inl mw)), (m4, .inl (cF, 288, .inr (.inr (.inl mf)))), (m5, .inl (cZ, 2, .inl mik)), (m6, .inl (cI, 200, .inl mtx)), (m7, .inl (cI, 56, .inl mwd)), (m8, .inl (cI, 3, .inl msz)), (m9, .inl (cI, 3, .inl mso)), (m10, .inl (cI, 24, .inl mpl))] → va_S A s.heap H locs → lv_has ls 6 [(4, .int oo.1), (3, .float oo.2), (0, .ref ma), (1, .int i), (2, .int k)] → W p l e { frames := 0, cells := 0, slots := 0, locals := 0 } s m args below meth c H locs 0 0 Q (F0 m 59 ls [])) → W p l e { frames := 0, cells := 0, slots := 0, locals := 0 } s m args below meth c H locs 0 0 Q (F0 m 5 ls []) := by
    intro n
    induction n with
    | zero => intro x4_5 x3_5 oo hf; exact absurd hf (by simp [f_X6_limbOf_L5])
    | succ n ih =>
      intro x4_5 x3_5 oo hf H locs ls hP hD hS hl kk
      rw [f_X6_limbOf_L5] at hf
      refine lv_iload hx hb dX6_limbOf_5 (lv_at hl 0 rfl) ?_
      refine lv_aload_n hx hb dX6_limbOf_7 rfl (lv_at hl 2 rfl) ?_
      refine va_get (D := D) (ci := 6) (v := .int mst) (C := RX6) (T := TX6) (N := 23) hx hb hts w0 hown hK hP 0 rfl rfl 0 (by decide) w1 (fun _ h9 => h9) rfl dX6_limbOf_8 ?_
      refine lv_icmp_ge (tgt := 59) hx hb dX6_limbOf_11 (by decide) (fun c1 => ?_) (fun c1 => ?_)
      · have hf := if_p c1 hf
        have h1 := Option.some.inj hf
        subst h1
        exact kk H locs ls hP hD hS (lv_sub hl [0, 1, 2, 3, 4] rfl)
      · have hf := if_n c1 hf
        refine lv_aload_n hx hb dX6_limbOf_14 rfl (lv_at hl 2 rfl) ?_
        refine va_get (D := D) (ci := 6) (v := .ref m1) (C := RX6) (T := TX6) (N := 23) hx hb hts w0 hown hK hP 0 rfl rfl 4 (by decide) w2 (fun _ h9 => h9) rfl dX6_limbOf_15 ?_
        refine lv_iconst (v := 4) hx hb dX6_limbOf_18 (by decide) ?_
        refine lv_iload hx hb dX6_limbOf_19 (lv_at hl 0 rfl) ?_
        refine lv_imul hx hb dX6_limbOf_21 ?_
        refine lv_iload_n hx hb dX6_limbOf_22 rfl (lv_at hl 4 rfl) ?_
        refine lv_iadd hx hb dX6_limbOf_23 ?_
        obtain ⟨g2, hf⟩ := gd_inv hf
        refine va_iald hx hb hK hP 1 2 rfl rfl g2 dX6_limbOf_24 ?_
        refine lv_i2f hx hb dX6_limbOf_25 ?_
        refine lv_ldcf hx hb hown w3 dX6_limbOf_26 ?_
        obtain ⟨g3, hf⟩ := gd_inv hf
        refine lv_fdiv hx hb dX6_limbOf_28 g3 ?_
        refine lv_fstore (lv' := [(5, .float (FP.fdiv (FP.i2f (mvl ((((4 : Int32) * x4_5) + k).toNatClampNeg))) 1082130432)), (4, .int x4_5), (3, .float x3_5), (0, .ref ma), (1, .int i), (2, .int k)]) hx hb dX6_limbOf_29 hl (by decide) rfl (fun ls hl => ?_)
        refine lv_fload hx hb dX6_limbOf_31 (lv_at hl 0 rfl) ?_
        refine lv_aload_n hx hb dX6_limbOf_33 rfl (lv_at hl 3 rfl) ?_
        refine va_get (D := D) (ci := 6) (v := .ref m4) (C := RX6) (T := TX6) (N := 23) hx hb hts w0 hown hK hP 0 rfl rfl 7 (by decide) w4 (fun _ h9 => h9) rfl dX6_limbOf_34 ?_
        refine lv_bipush (v := 6) hx hb dX6_limbOf_37 (by decide) ?_
        refine lv_iload_n hx hb dX6_limbOf_39 rfl (lv_at hl 4 rfl) ?_
        refine lv_imul hx hb dX6_limbOf_40 ?_
        refine lv_iload hx hb dX6_limbOf_41 (lv_at hl 1 rfl) ?_
        refine lv_iadd hx hb dX6_limbOf_43 ?_
        obtain ⟨g4, hf⟩ := gd_inv hf
        refine va_fald hx hb hK hP 4 1 rfl rfl g4 dX6_limbOf_44 ?_
        obtain ⟨g5, hf⟩ := gd_inv hf
        refine lv_fmul hx hb dX6_limbOf_45 g5 ?_
        refine lv_fstore (lv' := [(5, .float (FP.fmul (FP.fdiv (FP.i2f (mvl ((((4 : Int32) * x4_5) + k).toNatClampNeg))) 1082130432) (mf ((((6 : Int32) * i) + x4_5).toNatClampNeg)))), (4, .int x4_5), (3, .float x3_5), (0, .ref ma), (1, .int i), (2, .int k)]) hx hb dX6_limbOf_46 hl (by decide) rfl (fun ls hl => ?_)
        refine lv_fload_n hx hb dX6_limbOf_48 rfl (lv_at hl 2 rfl) ?_
        refine lv_fload hx hb dX6_limbOf_49 (lv_at hl 0 rfl) ?_
        obtain ⟨g6, hf⟩ := gd_inv hf
        refine lv_fadd hx hb dX6_limbOf_51 g6 ?_
        refine lv_fstore_n (lv' := [(3, .float (FP.fadd x3_5 (FP.fmul (FP.fdiv (FP.i2f (mvl ((((4 : Int32) * x4_5) + k).toNatClampNeg))) 1082130432) (mf ((((6 : Int32) * i) + x4_5).toNatClampNeg))))), (5, .float (FP.fmul (FP.fdiv (FP.i2f (mvl ((((4 : Int32) * x4_5) + k).toNatClampNeg))) 1082130432) (mf ((((6 : Int32) * i) + x4_5).toNatClampNeg)))), (4, .int x4_5), (0, .ref ma), (1, .int i), (2, .int k)]) hx hb dX6_limbOf_52 rfl hl (by decide) rfl (fun ls hl => ?_)
        refine lv_iinc (v := x4_5 + 1) (lv' := [(4, .int (x4_5 + 1)), (3, .float (FP.fadd x3_5 (FP.fmul (FP.fdiv (FP.i2f (mvl ((((4 : Int32) * x4_5) + k).toNatClampNeg))) 1082130432) (mf ((((6 : Int32) * i) + x4_5).toNatClampNeg))))), (5, .float (FP.fmul (FP.fdiv (FP.i2f (mvl ((((4 : Int32) * x4_5) + k).toNatClampNeg))) 1082130432) (mf ((((6 : Int32) * i) + x4_5).toNatClampNeg)))), (0, .ref ma), (1, .int i), (2, .int k)]) hx hb dX6_limbOf_53 hl (k := 2) rfl rfl (by decide) rfl (fun ls hl => ?_)
        refine lv_goto (tgt := 5) hx hb dX6_limbOf_56 (by decide) ?_
        exact ih (x4_5 + 1) (FP.fadd x3_5 (FP.fmul (FP.fdiv (FP.i2f (mvl ((((4 : Int32) * x4_5) + k).toNatClampNeg))) 1082130432) (mf ((((6 : Int32) * i) + x4_5).toNatClampNeg)))) oo hf H locs ls hP hD hS (lv_sub hl [0, 1, 3, 4, 5] rfl) kk
  unfold f_X6_limbOf at hf
  refine lv_fconst0 hx hb dX6_limbOf_0 ?_
  refine lv_fstore_n (lv' := [(3, .float FP.fconst0), (0, .ref ma), (1, .int i), (2, .int k)]) hx hb dX6_limbOf_1 rfl hl (by decide) rfl (fun ls hl => ?_)
  refine lv_iconst (v := 0) hx hb dX6_limbOf_2 (by decide) ?_
  refine lv_istore (lv' := [(4, .int 0), (3, .float FP.fconst0), (0, .ref ma), (1, .int i), (2, .int k)]) hx hb dX6_limbOf_3 hl (by decide) rfl (fun ls hl => ?_)
  obtain ⟨⟨q7, q8⟩, hq9, hf⟩ := bd_inv hf
  refine L5 1000 0 FP.fconst0 (q7, q8) hq9 H locs ls hP hD hS (lv_sub hl [0, 1, 2, 3, 4] rfl) (fun H locs ls hP hD hS hl => ?_)
  have hP : va_P D vwCl [(ma, .inr (6, [.int mst, .int mwy, .int mmk, .int mwt, .ref m1, .ref m2, .ref m3, .ref m4, .int mun, .ref m5, .ref m6, .int mln, .int mfi, .int mbe, .int mrs, .int mrw, .int mcl, .int mdo, .int mnu, .ref m7, .ref m8, .ref m9, .ref m10])), (m1, .inl (cI, 24, .inl mvl)), (m2, .inl (cI, 96, .inl mof)), (m3, .inl (cI, 168, .inl mw)), (m4, .inl (cF, 288, .inr (.inr (.inl mf)))), (m5, .inl (cZ, 2, .inl mik)), (m6, .inl (cI, 200, .inl mtx)), (m7, .inl (cI, 56, .inl mwd)), (m8, .inl (cI, 3, .inl msz)), (m9, .inl (cI, 3, .inl mso)), (m10, .inl (cI, 24, .inl mpl))] H := hP
  have hD : va_D A [(ma, .inr (6, [.int mst, .int mwy, .int mmk, .int mwt, .ref m1, .ref m2, .ref m3, .ref m4, .int mun, .ref m5, .ref m6, .int mln, .int mfi, .int mbe, .int mrs, .int mrw, .int mcl, .int mdo, .int mnu, .ref m7, .ref m8, .ref m9, .ref m10])), (m1, .inl (cI, 24, .inl mvl)), (m2, .inl (cI, 96, .inl mof)), (m3, .inl (cI, 168, .inl mw)), (m4, .inl (cF, 288, .inr (.inr (.inl mf)))), (m5, .inl (cZ, 2, .inl mik)), (m6, .inl (cI, 200, .inl mtx)), (m7, .inl (cI, 56, .inl mwd)), (m8, .inl (cI, 3, .inl msz)), (m9, .inl (cI, 3, .inl mso)), (m10, .inl (cI, 24, .inl mpl))] := hD
  have hl : lv_has ls 6 [(4, .int q7), (3, .float q8), (0, .ref ma), (1, .int i), (2, .int k)] := hl
  refine lv_fload_n hx hb dX6_limbOf_59 rfl (lv_at hl 1 rfl) ?_
  have h1 := Option.some.inj hf
  subst h1
  rw [hQ]
  exact W.fret (v := q8) hx hb hr (fun t ht hW => qEnd hP hS ht) hS.2.2 dX6_limbOf_60
set_option maxRecDepth 100000 in
set_option maxHeartbeats 4000000 in
theorem c_X6_theLimb (l : Launch) (D : va_G) (B : Nat) (adK adV : Nat → Nat) (cC cF cI cZ cM cS : ClassId) (ma : Nat) (mst : Int32) (mwy : Int32) (mmk : Int32) (mwt : Int32) (m1 : Nat) (m2 : Nat) (m3 : Nat) (m4 : Nat) (mun : Int32) (m5 : Nat) (m6 : Nat) (mln : Int32) (mfi : Int32) (mbe : Int32) (mrs : Int32) (mrw : Int32) (mcl : Int32) (mdo : Int32) (mnu : Int32) (m7 : Nat) (m8 : Nat) (m9 : Nat) (m10 : Nat) (mvl : Nat → Int32) (mof : Nat → Int32) (mw : Nat → Int32) (mf : Nat → UInt32) (mik : Nat → Int32) (mtx : Nat → Int32) (mwd : Nat → Int32) (msz : Nat → Int32) (mso : Nat → Int32) (mpl : Nat → Int32) (i : Int32) (zz : UInt32) (hf : f_X6_theLimb mst mmk mwt mvl mf i = some zz) : Ct l yX6_theLimb wsX6_theLimb { frames := 1, cells := 0, slots := 0, locals := 25 } D B adK adV (tysX cC cF cI cZ cM cS) [.ref ma, .int i] [(ma, .inr (6, [.int mst, .int mwy, .int mmk, .int mwt, .ref m1, .ref m2, .ref m3, .ref m4, .int mun, .ref m5, .ref m6, .int mln, .int mfi, .int mbe, .int mrs, .int mrw, .int mcl, .int mdo, .int mnu, .ref m7, .ref m8, .ref m9, .ref m10])), (m1, .inl (cI, 24, .inl mvl)), (m2, .inl (cI, 96, .inl mof)), (m3, .inl (cI, 168, .inl mw)), (m4, .inl (cF, 288, .inr (.inr (.inl mf)))), (m5, .inl (cZ, 2, .inl mik)), (m6, .inl (cI, 200, .inl mtx)), (m7, .inl (cI, 56, .inl mwd)), (m8, .inl (cI, 3, .inl msz)), (m9, .inl (cI, 3, .inl mso)), (m10, .inl (cI, 24, .inl mpl))] [(ma, .inr (6, [.int mst, .int mwy, .int mmk, .int mwt, .ref m1, .ref m2, .ref m3, .ref m4, .int mun, .ref m5, .ref m6, .int mln, .int mfi, .int mbe, .int mrs, .int mrw, .int mcl, .int mdo, .int mnu, .ref m7, .ref m8, .ref m9, .ref m10])), (m1, .inl (cI, 24, .inl mvl)), (m2, .inl (cI, 96, .inl mof)), (m3, .inl (cI, 168, .inl mw)), (m4, .inl (cF, 288, .inr (.inr (.inl mf)))), (m5, .inl (cZ, 2, .inl mik)), (m6, .inl (cI, 200, .inl mtx)), (m7, .inl (cI, 56, .inl mwd)), (m8, .inl (cI, 3, .inl msz)), (m9, .inl (cI, 3, .inl mso)), (m10, .inl (cI, 24, .inl mpl))] (some (.float zz)) := by
  refine Ct.ofW (cc := cX6_theLimb) (maxL := 7) (ret := (some .float)) (by decide) rfl (Nat.le_of_ble_eq_true rfl) ?_
  intro p e s m args below meth c hx hb hr hml hts hown hlocks hnm hK hE A Q hQ hB H locs ls hP hD hS hl
  have hl : lv_has ls 7 [(0, .ref ma), (1, .int i)] := hl
  have w0 : ∀ w ∈ u_ws RX6 TX6 23, w ∈ wsX6_theLimb := by decide +kernel
  have w1 := hts (.fieldLink RX6 126 "MotionStatesModel" "mask" "I") (by decide +kernel)
  have w2 := hts (.fieldLink RX6 7 "MotionStatesModel" "weight" "I") (by decide +kernel)
  have w3 := hts (.constantFloat RX6 224 (1098907648)) (by decide +kernel)
  unfold f_X6_theLimb at hf
  refine lv_aload_n hx hb dX6_theLimb_0 rfl (lv_at hl 0 rfl) ?_
  refine lv_iconst (v := 0) hx hb dX6_theLimb_1 (by decide) ?_
  refine lv_iload_n hx hb dX6_theLimb_2 rfl (lv_at hl 1 rfl) ?_
  obtain ⟨r1, hc2, hf⟩ := bd_inv hf
  refine xcV (As := [.int 0, .int i]) (rest := []) (ws' := [(ma, .inr (6, [.int mst, .int mwy, .int mmk, .int mwt, .ref m1, .ref m2, .ref m3, .ref m4, .int mun, .ref m5, .ref m6, .int mln, .int mfi, .int mbe, .int mrs, .int mrw, .int mcl, .int mdo, .int mnu, .ref m7, .ref m8, .ref m9, .ref m10])), (m1, .inl (cI, 24, .inl mvl)), (m2, .inl (cI, 96, .inl mof)), (m3, .inl (cI, 168, .inl mw)), (m4, .inl (cF, 288, .inr (.inr (.inl mf)))), (m5, .inl (cZ, 2, .inl mik)), (m6, .inl (cI, 200, .inl mtx)), (m7, .inl (cI, 56, .inl mwd)), (m8, .inl (cI, 3, .inl msz)), (m9, .inl (cI, 3, .inl mso)), (m10, .inl (cI, 24, .inl mpl))]) ⟨hx, hb, hml, hown, hts⟩ (c_X6_limbOf l D B adK adV cC cF cI cZ cM cS ma mst mwy mmk mwt m1 m2 m3 m4 mun m5 m6 mln mfi mbe mrs mrw mcl mdo mnu m7 m8 m9 m10 mvl mof mw mf mik mtx mwd msz mso mpl 0 i  r1 hc2) (cwV 2 hts gX6_theLimb_X6_limbOf rfl rfl rfl (by decide +kernel) ⟨Nat.le_of_ble_eq_true rfl, Nat.le_of_ble_eq_true rfl⟩) (va_recv hK hP (ci := 6) (q0 := 0) rfl rfl) hK hP hD hS hB hE [0, 1, 2, 3, 4, 5, 6, 7, 8, 9, 10] rfl rfl rfl rfl rfl hl.1 rfl (Nat.le_of_ble_eq_true rfl) dX6_theLimb_3 ⟨Nat.le_of_ble_eq_true rfl, Nat.le_of_ble_eq_true rfl⟩ (fun H locs hP hD hS => ?_)
  refine W.eq (g2 := F0 m 6 ls [.float r1]) rfl ?_
  refine lv_fstore_n (lv' := [(2, .float r1), (0, .ref ma), (1, .int i)]) hx hb dX6_theLimb_6 rfl hl (by decide) rfl (fun ls hl => ?_)
  refine lv_aload_n hx hb dX6_theLimb_7 rfl (lv_at hl 1 rfl) ?_
  refine va_get (D := D) (ci := 6) (v := .int mmk) (C := RX6) (T := TX6) (N := 23) hx hb hts w0 hown hK hP 0 rfl rfl 2 (by decide) w1 (fun _ h9 => h9) rfl dX6_theLimb_8 ?_
  refine lv_iload_n hx hb dX6_theLimb_11 rfl (lv_at hl 2 rfl) ?_
  obtain ⟨r3, hc4, hf⟩ := bd_inv hf
  refine xcS (As := [.int mmk, .int i]) (rest := []) (ws' := [(ma, .inr (6, [.int mst, .int mwy, .int mmk, .int mwt, .ref m1, .ref m2, .ref m3, .ref m4, .int mun, .ref m5, .ref m6, .int mln, .int mfi, .int mbe, .int mrs, .int mrw, .int mcl, .int mdo, .int mnu, .ref m7, .ref m8, .ref m9, .ref m10])), (m1, .inl (cI, 24, .inl mvl)), (m2, .inl (cI, 96, .inl mof)), (m3, .inl (cI, 168, .inl mw)), (m4, .inl (cF, 288, .inr (.inr (.inl mf)))), (m5, .inl (cZ, 2, .inl mik)), (m6, .inl (cI, 200, .inl mtx)), (m7, .inl (cI, 56, .inl mwd)), (m8, .inl (cI, 3, .inl msz)), (m9, .inl (cI, 3, .inl mso)), (m10, .inl (cI, 24, .inl mpl))]) ⟨hx, hb, hml, hown, hts⟩ (c_X6_has l D B adK adV cC cF cI cZ cM cS mmk i  r3 hc4) (va_cwS 2 hts gX6_theLimb_X6_has rfl rfl rfl (by decide +kernel) ⟨Nat.le_of_ble_eq_true rfl, Nat.le_of_ble_eq_true rfl⟩) hK hP hD hS hB hE [] rfl rfl rfl rfl rfl hl.1 rfl (Nat.le_of_ble_eq_true rfl) dX6_theLimb_12 ⟨Nat.le_of_ble_eq_true rfl, Nat.le_of_ble_eq_true rfl⟩ (fun H locs hP hD hS => ?_)
  refine W.eq (g2 := F0 m 15 ls [.int r3]) rfl ?_
  refine lv_if_ne (tgt := 20) hx hb dX6_theLimb_15 (by decide) (fun c5 => ?_) (fun c5 => ?_)
  · have hf := if_n c5 hf
    refine lv_aload_n hx hb dX6_theLimb_20 rfl (lv_at hl 1 rfl) ?_
    refine va_get (D := D) (ci := 6) (v := .int mwt) (C := RX6) (T := TX6) (N := 23) hx hb hts w0 hown hK hP 0 rfl rfl 3 (by decide) w2 (fun _ h9 => h9) rfl dX6_theLimb_21 ?_
    refine lv_i2f hx hb dX6_theLimb_24 ?_
    refine lv_ldcf hx hb hown w3 dX6_theLimb_25 ?_
    obtain ⟨g6, hf⟩ := gd_inv hf
    refine lv_fdiv hx hb dX6_theLimb_27 g6 ?_
    refine lv_fstore_n (lv' := [(3, .float (FP.fdiv (FP.i2f mwt) 1098907648)), (2, .float r1), (0, .ref ma), (1, .int i)]) hx hb dX6_theLimb_28 rfl hl (by decide) rfl (fun ls hl => ?_)
    refine lv_fconst1 hx hb dX6_theLimb_29 ?_
    refine lv_fload_n hx hb dX6_theLimb_30 rfl (lv_at hl 0 rfl) ?_
    obtain ⟨g7, hf⟩ := gd_inv hf
    refine lv_fsub hx hb dX6_theLimb_31 g7 ?_
    refine lv_fstore (lv' := [(4, .float (FP.fsub FP.fconst1 (FP.fdiv (FP.i2f mwt) 1098907648))), (3, .float (FP.fdiv (FP.i2f mwt) 1098907648)), (2, .float r1), (0, .ref ma), (1, .int i)]) hx hb dX6_theLimb_32 hl (by decide) rfl (fun ls hl => ?_)
    refine lv_fload_n hx hb dX6_theLimb_34 rfl (lv_at hl 2 rfl) ?_
    refine lv_fload hx hb dX6_theLimb_35 (lv_at hl 0 rfl) ?_
    obtain ⟨g8, hf⟩ := gd_inv hf
    refine lv_fmul hx hb dX6_theLimb_37 g8 ?_
    refine lv_fstore (lv' := [(5, .float (FP.fmul r1 (FP.fsub FP.fconst1 (FP.fdiv (FP.i2f mwt) 1098907648)))), (4, .float (FP.fsub FP.fconst1 (FP.fdiv (FP.i2f mwt) 1098907648))), (3, .float (FP.fdiv (FP.i2f mwt) 1098907648)), (2, .float r1), (0, .ref ma), (1, .int i)]) hx hb dX6_theLimb_38 hl (by decide) rfl (fun ls hl => ?_)
    refine lv_aload_n hx hb dX6_theLimb_40 rfl (lv_at hl 4 rfl) ?_
    refine lv_iconst (v := 1) hx hb dX6_theLimb_41 (by decide) ?_
    refine lv_iload_n hx hb dX6_theLimb_42 rfl (lv_at hl 5 rfl) ?_
    obtain ⟨r9, hc10, hf⟩ := bd_inv hf
    refine xcV (As := [.int 1, .int i]) (rest := []) (ws' := [(ma, .inr (6, [.int mst, .int mwy, .int mmk, .int mwt, .ref m1, .ref m2, .ref m3, .ref m4, .int mun, .ref m5, .ref m6, .int mln, .int mfi, .int mbe, .int mrs, .int mrw, .int mcl, .int mdo, .int mnu, .ref m7, .ref m8, .ref m9, .ref m10])), (m1, .inl (cI, 24, .inl mvl)), (m2, .inl (cI, 96, .inl mof)), (m3, .inl (cI, 168, .inl mw)), (m4, .inl (cF, 288, .inr (.inr (.inl mf)))), (m5, .inl (cZ, 2, .inl mik)), (m6, .inl (cI, 200, .inl mtx)), (m7, .inl (cI, 56, .inl mwd)), (m8, .inl (cI, 3, .inl msz)), (m9, .inl (cI, 3, .inl mso)), (m10, .inl (cI, 24, .inl mpl))]) ⟨hx, hb, hml, hown, hts⟩ (c_X6_limbOf l D B adK adV cC cF cI cZ cM cS ma mst mwy mmk mwt m1 m2 m3 m4 mun m5 m6 mln mfi mbe mrs mrw mcl mdo mnu m7 m8 m9 m10 mvl mof mw mf mik mtx mwd msz mso mpl 1 i  r9 hc10) (cwV 2 hts gX6_theLimb_X6_limbOf rfl rfl rfl (by decide +kernel) ⟨Nat.le_of_ble_eq_true rfl, Nat.le_of_ble_eq_true rfl⟩) (va_recv hK hP (ci := 6) (q0 := 0) rfl rfl) hK hP hD hS hB hE [0, 1, 2, 3, 4, 5, 6, 7, 8, 9, 10] rfl rfl rfl rfl rfl hl.1 rfl (Nat.le_of_ble_eq_true rfl) dX6_theLimb_43 ⟨Nat.le_of_ble_eq_true rfl, Nat.le_of_ble_eq_true rfl⟩ (fun H locs hP hD hS => ?_)
    refine W.eq (g2 := F0 m 46 ls [.float r9]) rfl ?_
    refine lv_fload_n hx hb dX6_theLimb_46 rfl (lv_at hl 2 rfl) ?_
    obtain ⟨g11, hf⟩ := gd_inv hf
    refine lv_fmul hx hb dX6_theLimb_47 g11 ?_
    refine lv_fstore (lv' := [(6, .float (FP.fmul r9 (FP.fdiv (FP.i2f mwt) 1098907648))), (5, .float (FP.fmul r1 (FP.fsub FP.fconst1 (FP.fdiv (FP.i2f mwt) 1098907648)))), (4, .float (FP.fsub FP.fconst1 (FP.fdiv (FP.i2f mwt) 1098907648))), (3, .float (FP.fdiv (FP.i2f mwt) 1098907648)), (2, .float r1), (0, .ref ma), (1, .int i)]) hx hb dX6_theLimb_48 hl (by decide) rfl (fun ls hl => ?_)
    refine lv_fload hx hb dX6_theLimb_50 (lv_at hl 1 rfl) ?_
    refine lv_fload hx hb dX6_theLimb_52 (lv_at hl 0 rfl) ?_
    obtain ⟨g12, hf⟩ := gd_inv hf
    refine lv_fadd hx hb dX6_theLimb_54 g12 ?_
    have h1 := Option.some.inj hf
    subst h1
    rw [hQ]
    exact W.fret (v := (FP.fadd (FP.fmul r1 (FP.fsub FP.fconst1 (FP.fdiv (FP.i2f mwt) 1098907648))) (FP.fmul r9 (FP.fdiv (FP.i2f mwt) 1098907648)))) hx hb hr (fun t ht hW => qEnd hP hS ht) hS.2.2 dX6_theLimb_55
  · have hf := if_p c5 hf
    refine lv_fload_n hx hb dX6_theLimb_18 rfl (lv_at hl 0 rfl) ?_
    have h1 := Option.some.inj hf
    subst h1
    rw [hQ]
    exact W.fret (v := r1) hx hb hr (fun t ht hW => qEnd hP hS ht) hS.2.2 dX6_theLimb_19
set_option maxRecDepth 100000 in
set_option maxHeartbeats 4000000 in
theorem c_X6_limb (l : Launch) (D : va_G) (B : Nat) (adK adV : Nat → Nat) (cC cF cI cZ cM cS : ClassId) (ma : Nat) (mst : Int32) (mwy : Int32) (mmk : Int32) (mwt : Int32) (m1 : Nat) (m2 : Nat) (m3 : Nat) (m4 : Nat) (mun : Int32) (m5 : Nat) (m6 : Nat) (mln : Int32) (mfi : Int32) (mbe : Int32) (mrs : Int32) (mrw : Int32) (mcl : Int32) (mdo : Int32) (mnu : Int32) (m7 : Nat) (m8 : Nat) (m9 : Nat) (m10 : Nat) (mvl : Nat → Int32) (mof : Nat → Int32) (mw : Nat → Int32) (mf : Nat → UInt32) (mik : Nat → Int32) (mtx : Nat → Int32) (mwd : Nat → Int32) (msz : Nat → Int32) (mso : Nat → Int32) (mpl : Nat → Int32) (i : Int32) (zz : Int32) (hf : f_X6_limb mst mmk mwt mvl mf i = some zz) : Ct l yX6_limb wsX6_limb { frames := 2, cells := 0, slots := 0, locals := 51 } D B adK adV (tysX cC cF cI cZ cM cS) [.ref ma, .int i] [(ma, .inr (6, [.int mst, .int mwy, .int mmk, .int mwt, .ref m1, .ref m2, .ref m3, .ref m4, .int mun, .ref m5, .ref m6, .int mln, .int mfi, .int mbe, .int mrs, .int mrw, .int mcl, .int mdo, .int mnu, .ref m7, .ref m8, .ref m9, .ref m10])), (m1, .inl (cI, 24, .inl mvl)), (m2, .inl (cI, 96, .inl mof)), (m3, .inl (cI, 168, .inl mw)), (m4, .inl (cF, 288, .inr (.inr (.inl mf)))), (m5, .inl (cZ, 2, .inl mik)), (m6, .inl (cI, 200, .inl mtx)), (m7, .inl (cI, 56, .inl mwd)), (m8, .inl (cI, 3, .inl msz)), (m9, .inl (cI, 3, .inl mso)), (m10, .inl (cI, 24, .inl mpl))] [(ma, .inr (6, [.int mst, .int mwy, .int mmk, .int mwt, .ref m1, .ref m2, .ref m3, .ref m4, .int mun, .ref m5, .ref m6, .int mln, .int mfi, .int mbe, .int mrs, .int mrw, .int mcl, .int mdo, .int mnu, .ref m7, .ref m8, .ref m9, .ref m10])), (m1, .inl (cI, 24, .inl mvl)), (m2, .inl (cI, 96, .inl mof)), (m3, .inl (cI, 168, .inl mw)), (m4, .inl (cF, 288, .inr (.inr (.inl mf)))), (m5, .inl (cZ, 2, .inl mik)), (m6, .inl (cI, 200, .inl mtx)), (m7, .inl (cI, 56, .inl mwd)), (m8, .inl (cI, 3, .inl msz)), (m9, .inl (cI, 3, .inl mso)), (m10, .inl (cI, 24, .inl mpl))] (some (.int zz)) := by
  refine Ct.ofW (cc := cX6_limb) (maxL := 2) (ret := (some .int)) (by decide) rfl (Nat.le_of_ble_eq_true rfl) ?_
  intro p e s m args below meth c hx hb hr hml hts hown hlocks hnm hK hE A Q hQ hB H locs ls hP hD hS hl
  have hl : lv_has ls 2 [(0, .ref ma), (1, .int i)] := hl
  have w0 := hts (.constantLong RX6 162 (3)) (by decide +kernel)
  have w1 : ∀ w ∈ u_ws RX6 TX6 23, w ∈ wsX6_limb := by decide +kernel
  have w2 := hts (.fieldLink RX6 144 "MotionStatesModel" "states" "I") (by decide +kernel)
  have w3 := hts (.constantFloat RX6 229 (1149239296)) (by decide +kernel)
  have w4 := hts (.constant RX6 230 (1000000)) (by decide +kernel)
  unfold f_X6_limb at hf
  refine lv_iload_n hx hb dX6_limb_0 rfl (lv_at hl 1 rfl) ?_
  refine lv_i2l hx hb dX6_limb_1 rfl ?_
  refine lv_lconst (v := 0) hx hb dX6_limb_2 (by decide) ?_
  refine lv_ldc2 hx hb hown w0 dX6_limb_3 ?_
  obtain ⟨r1, hc2, hf⟩ := bd_inv hf
  refine xcS (As := [.long (i.toInt64), .long 0, .long 3]) (rest := []) (ws' := [(ma, .inr (6, [.int mst, .int mwy, .int mmk, .int mwt, .ref m1, .ref m2, .ref m3, .ref m4, .int mun, .ref m5, .ref m6, .int mln, .int mfi, .int mbe, .int mrs, .int mrw, .int mcl, .int mdo, .int mnu, .ref m7, .ref m8, .ref m9, .ref m10])), (m1, .inl (cI, 24, .inl mvl)), (m2, .inl (cI, 96, .inl mof)), (m3, .inl (cI, 168, .inl mw)), (m4, .inl (cF, 288, .inr (.inr (.inl mf)))), (m5, .inl (cZ, 2, .inl mik)), (m6, .inl (cI, 200, .inl mtx)), (m7, .inl (cI, 56, .inl mwd)), (m8, .inl (cI, 3, .inl msz)), (m9, .inl (cI, 3, .inl mso)), (m10, .inl (cI, 24, .inl mpl))]) ⟨hx, hb, hml, hown, hts⟩ (c_X6_in l D B adK adV cC cF cI cZ cM cS (i.toInt64) 0 3  r1 hc2) (va_cwS 3 hts gX6_limb_X6_in rfl rfl rfl (by decide +kernel) ⟨Nat.le_of_ble_eq_true rfl, Nat.le_of_ble_eq_true rfl⟩) hK hP hD hS hB hE [] rfl rfl rfl rfl rfl hl.1 rfl (Nat.le_of_ble_eq_true rfl) dX6_limb_6 ⟨Nat.le_of_ble_eq_true rfl, Nat.le_of_ble_eq_true rfl⟩ (fun H locs hP hD hS => ?_)
  refine W.eq (g2 := F0 m 9 ls [.int r1]) rfl ?_
  refine lv_if_ne (tgt := 15) hx hb dX6_limb_9 (by decide) (fun c3 => ?_) (fun c3 => ?_)
  · have hf := if_n c3 hf
    refine lv_aload_n hx hb dX6_limb_15 rfl (lv_at hl 0 rfl) ?_
    refine va_get (D := D) (ci := 6) (v := .int mst) (C := RX6) (T := TX6) (N := 23) hx hb hts w1 hown hK hP 0 rfl rfl 0 (by decide) w2 (fun _ h9 => h9) rfl dX6_limb_16 ?_
    refine lv_if_ne (tgt := 27) hx hb dX6_limb_19 (by decide) (fun c4 => ?_) (fun c4 => ?_)
    · have hf := if_n c4 hf
      refine lv_aload_n hx hb dX6_limb_27 rfl (lv_at hl 0 rfl) ?_
      refine lv_iload_n hx hb dX6_limb_28 rfl (lv_at hl 1 rfl) ?_
      obtain ⟨r5, hc6, hf⟩ := bd_inv hf
      refine xcV (As := [.int i]) (rest := []) (ws' := [(ma, .inr (6, [.int mst, .int mwy, .int mmk, .int mwt, .ref m1, .ref m2, .ref m3, .ref m4, .int mun, .ref m5, .ref m6, .int mln, .int mfi, .int mbe, .int mrs, .int mrw, .int mcl, .int mdo, .int mnu, .ref m7, .ref m8, .ref m9, .ref m10])), (m1, .inl (cI, 24, .inl mvl)), (m2, .inl (cI, 96, .inl mof)), (m3, .inl (cI, 168, .inl mw)), (m4, .inl (cF, 288, .inr (.inr (.inl mf)))), (m5, .inl (cZ, 2, .inl mik)), (m6, .inl (cI, 200, .inl mtx)), (m7, .inl (cI, 56, .inl mwd)), (m8, .inl (cI, 3, .inl msz)), (m9, .inl (cI, 3, .inl mso)), (m10, .inl (cI, 24, .inl mpl))]) ⟨hx, hb, hml, hown, hts⟩ (c_X6_theLimb l D B adK adV cC cF cI cZ cM cS ma mst mwy mmk mwt m1 m2 m3 m4 mun m5 m6 mln mfi mbe mrs mrw mcl mdo mnu m7 m8 m9 m10 mvl mof mw mf mik mtx mwd msz mso mpl i  r5 hc6) (cwV 1 hts gX6_limb_X6_theLimb rfl rfl rfl (by decide +kernel) ⟨Nat.le_of_ble_eq_true rfl, Nat.le_of_ble_eq_true rfl⟩) (va_recv hK hP (ci := 6) (q0 := 0) rfl rfl) hK hP hD hS hB hE [0, 1, 2, 3, 4, 5, 6, 7, 8, 9, 10] rfl rfl rfl rfl rfl hl.1 rfl (Nat.le_of_ble_eq_true rfl) dX6_limb_29 ⟨Nat.le_of_ble_eq_true rfl, Nat.le_of_ble_eq_true rfl⟩ (fun H locs hP hD hS => ?_)
      refine W.eq (g2 := F0 m 32 ls [.float r5]) rfl ?_
      refine lv_ldcf hx hb hown w3 dX6_limb_32 ?_
      obtain ⟨g7, hf⟩ := gd_inv hf
      refine lv_fmul hx hb dX6_limb_34 g7 ?_
      refine lv_f2i hx hb dX6_limb_35 ?_
      refine lv_ldc hx hb hown w4 dX6_limb_36 ?_
      refine lv_iadd hx hb dX6_limb_38 ?_
      have h1 := Option.some.inj hf
      subst h1
      rw [hQ]
      exact W.iret (v := ((FP.f2i (FP.fmul r5 1149239296)) + 1000000)) hx hb hr (fun t ht hW => qEnd hP hS ht) hS.2.2 dX6_limb_39
    · have hf := if_p c4 hf
      refine lv_bipush (v := (-4)) hx hb dX6_limb_22 (by decide) ?_
      refine lv_goto (tgt := 39) hx hb dX6_limb_24 (by decide) ?_
      have h1 := Option.some.inj hf
      subst h1
      rw [hQ]
      exact W.iret (v := (-4)) hx hb hr (fun t ht hW => qEnd hP hS ht) hS.2.2 dX6_limb_39
  · have hf := if_p c3 hf
    refine lv_bipush (v := (-2)) hx hb dX6_limb_12 (by decide) ?_
    have h1 := Option.some.inj hf
    subst h1
    rw [hQ]
    exact W.iret (v := (-2)) hx hb hr (fun t ht hW => qEnd hP hS ht) hS.2.2 dX6_limb_14
set_option maxRecDepth 100000 in
set_option maxHeartbeats 4000000 in
theorem c_X6_exact (l : Launch) (D : va_G) (B : Nat) (adK adV : Nat → Nat) (cC cF cI cZ cM cS : ClassId) (ma : Nat) (mst : Int32) (mwy : Int32) (mmk : Int32) (mwt : Int32) (m1 : Nat) (m2 : Nat) (m3 : Nat) (m4 : Nat) (mun : Int32) (m5 : Nat) (m6 : Nat) (mln : Int32) (mfi : Int32) (mbe : Int32) (mrs : Int32) (mrw : Int32) (mcl : Int32) (mdo : Int32) (mnu : Int32) (m7 : Nat) (m8 : Nat) (m9 : Nat) (m10 : Nat) (mvl : Nat → Int32) (mof : Nat → Int32) (mw : Nat → Int32) (mf : Nat → UInt32) (mik : Nat → Int32) (mtx : Nat → Int32) (mwd : Nat → Int32) (msz : Nat → Int32) (mso : Nat → Int32) (mpl : Nat → Int32) (i : Int32) (zz : Int64) (hf : f_X6_exact mst mmk mwt mvl mf i = some zz) : Ct l yX6_exact wsX6_exact { frames := 2, cells := 0, slots := 0, locals := 51 } D B adK adV (tysX cC cF cI cZ cM cS) [.ref ma, .int i] [(ma, .inr (6, [.int mst, .int mwy, .int mmk, .int mwt, .ref m1, .ref m2, .ref m3, .ref m4, .int mun, .ref m5, .ref m6, .int mln, .int mfi, .int mbe, .int mrs, .int mrw, .int mcl, .int mdo, .int mnu, .ref m7, .ref m8, .ref m9, .ref m10])), (m1, .inl (cI, 24, .inl mvl)), (m2, .inl (cI, 96, .inl mof)), (m3, .inl (cI, 168, .inl mw)), (m4, .inl (cF, 288, .inr (.inr (.inl mf)))), (m5, .inl (cZ, 2, .inl mik)), (m6, .inl (cI, 200, .inl mtx)), (m7, .inl (cI, 56, .inl mwd)), (m8, .inl (cI, 3, .inl msz)), (m9, .inl (cI, 3, .inl mso)), (m10, .inl (cI, 24, .inl mpl))] [(ma, .inr (6, [.int mst, .int mwy, .int mmk, .int mwt, .ref m1, .ref m2, .ref m3, .ref m4, .int mun, .ref m5, .ref m6, .int mln, .int mfi, .int mbe, .int mrs, .int mrw, .int mcl, .int mdo, .int mnu, .ref m7, .ref m8, .ref m9, .ref m10])), (m1, .inl (cI, 24, .inl mvl)), (m2, .inl (cI, 96, .inl mof)), (m3, .inl (cI, 168, .inl mw)), (m4, .inl (cF, 288, .inr (.inr (.inl mf)))), (m5, .inl (cZ, 2, .inl mik)), (m6, .inl (cI, 200, .inl mtx)), (m7, .inl (cI, 56, .inl mwd)), (m8, .inl (cI, 3, .inl msz)), (m9, .inl (cI, 3, .inl mso)), (m10, .inl (cI, 24, .inl mpl))] (some (.long zz)) := by
  refine Ct.ofW (cc := cX6_exact) (maxL := 2) (ret := (some .long)) (by decide) rfl (Nat.le_of_ble_eq_true rfl) ?_
  intro p e s m args below meth c hx hb hr hml hts hown hlocks hnm hK hE A Q hQ hB H locs ls hP hD hS hl
  have hl : lv_has ls 2 [(0, .ref ma), (1, .int i)] := hl
  have w0 := hts (.constantLong RX6 162 (3)) (by decide +kernel)
  have w1 : ∀ w ∈ u_ws RX6 TX6 23, w ∈ wsX6_exact := by decide +kernel
  have w2 := hts (.fieldLink RX6 144 "MotionStatesModel" "states" "I") (by decide +kernel)
  have w3 := hts (.constantLong RX6 233 (-4)) (by decide +kernel)
  have w4 := hts (.constantLong RX6 231 (-2)) (by decide +kernel)
  unfold f_X6_exact at hf
  refine lv_iload_n hx hb dX6_exact_0 rfl (lv_at hl 1 rfl) ?_
  refine lv_i2l hx hb dX6_exact_1 rfl ?_
  refine lv_lconst (v := 0) hx hb dX6_exact_2 (by decide) ?_
  refine lv_ldc2 hx hb hown w0 dX6_exact_3 ?_
  obtain ⟨r1, hc2, hf⟩ := bd_inv hf
  refine xcS (As := [.long (i.toInt64), .long 0, .long 3]) (rest := []) (ws' := [(ma, .inr (6, [.int mst, .int mwy, .int mmk, .int mwt, .ref m1, .ref m2, .ref m3, .ref m4, .int mun, .ref m5, .ref m6, .int mln, .int mfi, .int mbe, .int mrs, .int mrw, .int mcl, .int mdo, .int mnu, .ref m7, .ref m8, .ref m9, .ref m10])), (m1, .inl (cI, 24, .inl mvl)), (m2, .inl (cI, 96, .inl mof)), (m3, .inl (cI, 168, .inl mw)), (m4, .inl (cF, 288, .inr (.inr (.inl mf)))), (m5, .inl (cZ, 2, .inl mik)), (m6, .inl (cI, 200, .inl mtx)), (m7, .inl (cI, 56, .inl mwd)), (m8, .inl (cI, 3, .inl msz)), (m9, .inl (cI, 3, .inl mso)), (m10, .inl (cI, 24, .inl mpl))]) ⟨hx, hb, hml, hown, hts⟩ (c_X6_in l D B adK adV cC cF cI cZ cM cS (i.toInt64) 0 3  r1 hc2) (va_cwS 3 hts gX6_exact_X6_in rfl rfl rfl (by decide +kernel) ⟨Nat.le_of_ble_eq_true rfl, Nat.le_of_ble_eq_true rfl⟩) hK hP hD hS hB hE [] rfl rfl rfl rfl rfl hl.1 rfl (Nat.le_of_ble_eq_true rfl) dX6_exact_6 ⟨Nat.le_of_ble_eq_true rfl, Nat.le_of_ble_eq_true rfl⟩ (fun H locs hP hD hS => ?_)
  refine W.eq (g2 := F0 m 9 ls [.int r1]) rfl ?_
  refine lv_if_ne (tgt := 16) hx hb dX6_exact_9 (by decide) (fun c3 => ?_) (fun c3 => ?_)
  · have hf := if_n c3 hf
    refine lv_aload_n hx hb dX6_exact_16 rfl (lv_at hl 0 rfl) ?_
    refine va_get (D := D) (ci := 6) (v := .int mst) (C := RX6) (T := TX6) (N := 23) hx hb hts w1 hown hK hP 0 rfl rfl 0 (by decide) w2 (fun _ h9 => h9) rfl dX6_exact_17 ?_
    refine lv_if_ne (tgt := 29) hx hb dX6_exact_20 (by decide) (fun c4 => ?_) (fun c4 => ?_)
    · have hf := if_n c4 hf
      refine lv_aload_n hx hb dX6_exact_29 rfl (lv_at hl 0 rfl) ?_
      refine lv_iload_n hx hb dX6_exact_30 rfl (lv_at hl 1 rfl) ?_
      obtain ⟨r5, hc6, hf⟩ := bd_inv hf
      refine xcV (As := [.int i]) (rest := []) (ws' := [(ma, .inr (6, [.int mst, .int mwy, .int mmk, .int mwt, .ref m1, .ref m2, .ref m3, .ref m4, .int mun, .ref m5, .ref m6, .int mln, .int mfi, .int mbe, .int mrs, .int mrw, .int mcl, .int mdo, .int mnu, .ref m7, .ref m8, .ref m9, .ref m10])), (m1, .inl (cI, 24, .inl mvl)), (m2, .inl (cI, 96, .inl mof)), (m3, .inl (cI, 168, .inl mw)), (m4, .inl (cF, 288, .inr (.inr (.inl mf)))), (m5, .inl (cZ, 2, .inl mik)), (m6, .inl (cI, 200, .inl mtx)), (m7, .inl (cI, 56, .inl mwd)), (m8, .inl (cI, 3, .inl msz)), (m9, .inl (cI, 3, .inl mso)), (m10, .inl (cI, 24, .inl mpl))]) ⟨hx, hb, hml, hown, hts⟩ (c_X6_theLimb l D B adK adV cC cF cI cZ cM cS ma mst mwy mmk mwt m1 m2 m3 m4 mun m5 m6 mln mfi mbe mrs mrw mcl mdo mnu m7 m8 m9 m10 mvl mof mw mf mik mtx mwd msz mso mpl i  r5 hc6) (cwV 1 hts gX6_exact_X6_theLimb rfl rfl rfl (by decide +kernel) ⟨Nat.le_of_ble_eq_true rfl, Nat.le_of_ble_eq_true rfl⟩) (va_recv hK hP (ci := 6) (q0 := 0) rfl rfl) hK hP hD hS hB hE [0, 1, 2, 3, 4, 5, 6, 7, 8, 9, 10] rfl rfl rfl rfl rfl hl.1 rfl (Nat.le_of_ble_eq_true rfl) dX6_exact_31 ⟨Nat.le_of_ble_eq_true rfl, Nat.le_of_ble_eq_true rfl⟩ (fun H locs hP hD hS => ?_)
      refine W.eq (g2 := F0 m 34 ls [.float r5]) rfl ?_
      obtain ⟨g7, hf⟩ := gd_inv hf
      refine lv_f2d hx hb dX6_exact_34 g7 ?_
      obtain ⟨r8, hc9, hf⟩ := bd_inv hf
      refine xcS (As := [.double (FP.f2d r5)]) (rest := []) (ws' := [(ma, .inr (6, [.int mst, .int mwy, .int mmk, .int mwt, .ref m1, .ref m2, .ref m3, .ref m4, .int mun, .ref m5, .ref m6, .int mln, .int mfi, .int mbe, .int mrs, .int mrw, .int mcl, .int mdo, .int mnu, .ref m7, .ref m8, .ref m9, .ref m10])), (m1, .inl (cI, 24, .inl mvl)), (m2, .inl (cI, 96, .inl mof)), (m3, .inl (cI, 168, .inl mw)), (m4, .inl (cF, 288, .inr (.inr (.inl mf)))), (m5, .inl (cZ, 2, .inl mik)), (m6, .inl (cI, 200, .inl mtx)), (m7, .inl (cI, 56, .inl mwd)), (m8, .inl (cI, 3, .inl msz)), (m9, .inl (cI, 3, .inl mso)), (m10, .inl (cI, 24, .inl mpl))]) ⟨hx, hb, hml, hown, hts⟩ (c_Jxe99ae_doubleToLongBits_ccdee l D B adK adV cC cF cI cZ cM cS (FP.f2d r5)  r8 hc9) (va_cwS 1 hts gX6_exact_Jxe99ae_doubleToLongBits_ccdee rfl rfl rfl (by decide +kernel) ⟨Nat.le_of_ble_eq_true rfl, Nat.le_of_ble_eq_true rfl⟩) hK hP hD hS hB hE [] rfl rfl rfl rfl rfl hl.1 rfl (Nat.le_of_ble_eq_true rfl) dX6_exact_35 ⟨Nat.le_of_ble_eq_true rfl, Nat.le_of_ble_eq_true rfl⟩ (fun H locs hP hD hS => ?_)
      refine W.eq (g2 := F0 m 38 ls [.long r8]) rfl ?_
      have h1 := Option.some.inj hf
      subst h1
      rw [hQ]
      exact W.lret (v := r8) hx hb hr (fun t ht hW => qEnd hP hS ht) hS.2.2 dX6_exact_38
    · have hf := if_p c4 hf
      refine lv_ldc2 hx hb hown w3 dX6_exact_23 ?_
      refine lv_goto (tgt := 38) hx hb dX6_exact_26 (by decide) ?_
      have h1 := Option.some.inj hf
      subst h1
      rw [hQ]
      exact W.lret (v := (-4)) hx hb hr (fun t ht hW => qEnd hP hS ht) hS.2.2 dX6_exact_38
  · have hf := if_p c3 hf
    refine lv_ldc2 hx hb hown w4 dX6_exact_12 ?_
    have h1 := Option.some.inj hf
    subst h1
    rw [hQ]
    exact W.lret (v := (-2)) hx hb hr (fun t ht hW => qEnd hP hS ht) hS.2.2 dX6_exact_15
set_option maxRecDepth 100000 in
set_option maxHeartbeats 4000000 in
theorem c_X6_whole (l : Launch) (D : va_G) (B : Nat) (adK adV : Nat → Nat) (cC cF cI cZ cM cS : ClassId) (ma : Nat) (mst : Int32) (mwy : Int32) (mmk : Int32) (mwt : Int32) (m1 : Nat) (m2 : Nat) (m3 : Nat) (m4 : Nat) (mun : Int32) (m5 : Nat) (m6 : Nat) (mln : Int32) (mfi : Int32) (mbe : Int32) (mrs : Int32) (mrw : Int32) (mcl : Int32) (mdo : Int32) (mnu : Int32) (m7 : Nat) (m8 : Nat) (m9 : Nat) (m10 : Nat) (mvl : Nat → Int32) (mof : Nat → Int32) (mw : Nat → Int32) (mf : Nat → UInt32) (mik : Nat → Int32) (mtx : Nat → Int32) (mwd : Nat → Int32) (msz : Nat → Int32) (mso : Nat → Int32) (mpl : Nat → Int32) (i : Int32) (zz : Int32) (hf : f_X6_whole mst mf i = some zz) : Ct l yX6_whole wsX6_whole { frames := 2, cells := 0, slots := 0, locals := 45 } D B adK adV (tysX cC cF cI cZ cM cS) [.ref ma, .int i] [(ma, .inr (6, [.int mst, .int mwy, .int mmk, .int mwt, .ref m1, .ref m2, .ref m3, .ref m4, .int mun, .ref m5, .ref m6, .int mln, .int mfi, .int mbe, .int mrs, .int mrw, .int mcl, .int mdo, .int mnu, .ref m7, .ref m8, .ref m9, .ref m10])), (m1, .inl (cI, 24, .inl mvl)), (m2, .inl (cI, 96, .inl mof)), (m3, .inl (cI, 168, .inl mw)), (m4, .inl (cF, 288, .inr (.inr (.inl mf)))), (m5, .inl (cZ, 2, .inl mik)), (m6, .inl (cI, 200, .inl mtx)), (m7, .inl (cI, 56, .inl mwd)), (m8, .inl (cI, 3, .inl msz)), (m9, .inl (cI, 3, .inl mso)), (m10, .inl (cI, 24, .inl mpl))] [(ma, .inr (6, [.int mst, .int mwy, .int mmk, .int mwt, .ref m1, .ref m2, .ref m3, .ref m4, .int mun, .ref m5, .ref m6, .int mln, .int mfi, .int mbe, .int mrs, .int mrw, .int mcl, .int mdo, .int mnu, .ref m7, .ref m8, .ref m9, .ref m10])), (m1, .inl (cI, 24, .inl mvl)), (m2, .inl (cI, 96, .inl mof)), (m3, .inl (cI, 168, .inl mw)), (m4, .inl (cF, 288, .inr (.inr (.inl mf)))), (m5, .inl (cZ, 2, .inl mik)), (m6, .inl (cI, 200, .inl mtx)), (m7, .inl (cI, 56, .inl mwd)), (m8, .inl (cI, 3, .inl msz)), (m9, .inl (cI, 3, .inl mso)), (m10, .inl (cI, 24, .inl mpl))] (some (.int zz)) := by
  refine Ct.ofW (cc := cX6_whole) (maxL := 4) (ret := (some .int)) (by decide) rfl (Nat.le_of_ble_eq_true rfl) ?_
  intro p e s m args below meth c hx hb hr hml hts hown hlocks hnm hK hE A Q hQ hB H locs ls hP hD hS hl
  have hl : lv_has ls 4 [(0, .ref ma), (1, .int i)] := hl
  have w0 : ∀ w ∈ u_ws RX6 TX6 23, w ∈ wsX6_whole := by decide +kernel
  have w1 := hts (.fieldLink RX6 144 "MotionStatesModel" "states" "I") (by decide +kernel)
  have w2 := hts (.fieldLink RX6 23 "MotionStatesModel" "f" "[F") (by decide +kernel)
  have w3 := hts (.constantFloat RX6 241 (1266679808)) (by decide +kernel)
  have L24 : ∀ (n : Nat) (x3_24 : Int32) (x2_24 : UInt32) (oo : Int32 × UInt32), f_X6_whole_L24 i mf n x3_24 x2_24 = some oo → ∀ (H : Heap) (locs : List Loc) (ls : Array Slot), va_P D vwCl [(ma, .inr (6, [.int mst, .int mwy, .int mmk, .int mwt, .ref m1, .ref m2, .ref m3, .ref m4, .int mun, .ref m5, .ref m6, .int mln, .int mfi, .int mbe, .int mrs, .int mrw, .int mcl, .int mdo, .int mnu, .ref m7, .ref m8, .ref m9, .ref m10])), (m1, .inl (cI, 24, .inl mvl)), (m2, .inl (cI, 96, .inl mof)), (m3, .inl (cI, 168, .inl mw)), (m4, .inl (cF, 288, .inr (.inr (.inl mf)))), (m5, .inl (cZ, 2, .inl mik)), (m6, .inl (cI, 200, .inl mtx)), (m7, .inl (cI, 56, .inl mwd)), (m8, .inl (cI, 3, .inl msz)), (m9, .inl (cI, 3, .inl mso)), (m10, .inl (cI, 24, .inl mpl))] H → va_D A [(ma, .inr (6, [.int mst, .int mwy, .int mmk, .int mwt, .ref m1, .ref m2, .ref m3, .ref m4, .int mun, .ref m5, .ref m6, .int mln, .int mfi, .int mbe, .int mrs, .int mrw, .int mcl, .int mdo, .int mnu, .ref m7, .ref m8, .ref m9, .ref m10])), (m1, .inl (cI, 24, .inl mvl)), (m2, .inl (cI, 96, .inl mof)), (m3, .inl (cI, 168, .inl mw)), (m4, .inl (cF, 288, .inr (.inr (.inl mf)))), (m5, .inl (cZ, 2, .inl mik)), (m6, .inl (cI, 200, .inl mtx)), (m7, .inl (cI, 56, .inl mwd)), (m8, .inl (cI, 3, .inl msz)), (m9, .inl (cI, 3, .inl mso)), (m10, .inl (cI, 24, .inl mpl))] → va_S A s.heap H locs → lv_has ls 4 [(3, .int x3_24), (2, .float x2_24), (0, .ref ma), (1, .int i)] → (∀ (H : Heap) (locs : List Loc) (ls : Array Slot), va_P D vwCl [(ma, .inr (6, [.int mst, .int mwy, .int mmk, .int mwt, .ref m1, .ref m2, .ref m3, .ref m4, .int mun, .ref m5, .ref m6, .int mln, .int mfi, .int mbe, .int mrs, .int mrw, .int mcl, .int mdo, .int mnu, .ref m7, .ref m8, .ref m9, .ref m10])), (m1, .inl (cI, 24, .inl mvl)), (m2, .inl (cI, 96, .inl mof)), (m3, .inl (cI, 168, .inl mw)), (m4, .inl (cF, 288, .inr (.inr (.inl mf)))), (m5, .inl (cZ, 2, .inl mik)), (m6, .inl (cI, 200, .inl mtx)), (m7, .inl (cI, 56, .inl mwd)), (m8, .inl (cI, 3, .inl msz)), (m9, .inl (cI, 3, .inl mso)), (m10, .inl (cI, 24, .inl mpl))] H → va_D A [(ma, .inr (6, [.int mst, .int mwy, .int mmk, .int mwt, .ref m1, .ref m2, .ref m3, .ref m4, .int mun, .ref m5, .ref m6, .int mln, .int mfi, .int mbe, .int mrs, .int mrw, .int mcl, .int mdo, .int mnu, .ref m7, .ref m8, .ref m9, .ref m10])), (m1, .inl (cI, 24, .inl mvl)), (m2, .inl (cI, 96, .inl mof)), (m3, .inl (cI, 168, .inl mw)), (m4, .inl (cF, 288, .inr (.inr (.inl mf)))), (m5, .inl (cZ, 2, .inl mik)), (m6, .inl (cI, 200, .inl mtx)), (m7, .inl (cI, 56, .inl mwd)), (m8, .inl (cI, 3, .inl msz)), (m9, .inl (cI, 3, .inl mso)), (m10, .inl (cI, 24, .inl mpl))] → va_S A s.heap H locs → lv_has ls 4 [(3, .int oo.1), (2, .float oo.2), (0, .ref ma), (1, .int i)] → W p l e { frames := 2, cells := 0, slots := 0, locals := 45 } s m args below meth c H locs 0 0 Q (F0 m 50 ls [])) → W p l e { frames := 2, cells := 0, slots := 0, locals := 45 } s m args below meth c H locs 0 0 Q (F0 m 24 ls []) := by
    intro n
    induction n with
    | zero => intro x3_24 x2_24 oo hf; exact absurd hf (by simp [f_X6_whole_L24])
    | succ n ih =>
      intro x3_24 x2_24 oo hf H locs ls hP hD hS hl kk
      rw [f_X6_whole_L24] at hf
      refine lv_iload_n hx hb dX6_whole_24 rfl (lv_at hl 0 rfl) ?_
      refine lv_bipush (v := 6) hx hb dX6_whole_25 (by decide) ?_
      refine lv_icmp_ge (tgt := 50) hx hb dX6_whole_27 (by decide) (fun c5 => ?_) (fun c5 => ?_)
      · have hf := if_p c5 hf
        have h1 := Option.some.inj hf
        subst h1
        exact kk H locs ls hP hD hS (lv_sub hl [0, 1, 2, 3] rfl)
      · have hf := if_n c5 hf
        refine lv_fload_n hx hb dX6_whole_30 rfl (lv_at hl 1 rfl) ?_
        refine lv_aload_n hx hb dX6_whole_31 rfl (lv_at hl 2 rfl) ?_
        refine va_get (D := D) (ci := 6) (v := .ref m4) (C := RX6) (T := TX6) (N := 23) hx hb hts w0 hown hK hP 0 rfl rfl 7 (by decide) w2 (fun _ h9 => h9) rfl dX6_whole_32 ?_
        refine lv_bipush (v := 6) hx hb dX6_whole_35 (by decide) ?_
        refine lv_iload_n hx hb dX6_whole_37 rfl (lv_at hl 3 rfl) ?_
        refine lv_imul hx hb dX6_whole_38 ?_
        refine lv_iload_n hx hb dX6_whole_39 rfl (lv_at hl 0 rfl) ?_
        refine lv_iadd hx hb dX6_whole_40 ?_
        obtain ⟨g6, hf⟩ := gd_inv hf
        refine va_fald hx hb hK hP 4 1 rfl rfl g6 dX6_whole_41 ?_
        obtain ⟨g7, hf⟩ := gd_inv hf
        refine lv_fadd hx hb dX6_whole_42 g7 ?_
        refine lv_fstore_n (lv' := [(2, .float (FP.fadd x2_24 (mf ((((6 : Int32) * i) + x3_24).toNatClampNeg)))), (3, .int x3_24), (0, .ref ma), (1, .int i)]) hx hb dX6_whole_43 rfl hl (by decide) rfl (fun ls hl => ?_)
        refine lv_iinc (v := x3_24 + 1) (lv' := [(3, .int (x3_24 + 1)), (2, .float (FP.fadd x2_24 (mf ((((6 : Int32) * i) + x3_24).toNatClampNeg)))), (0, .ref ma), (1, .int i)]) hx hb dX6_whole_44 hl (k := 1) rfl rfl (by decide) rfl (fun ls hl => ?_)
        refine lv_goto (tgt := 24) hx hb dX6_whole_47 (by decide) ?_
        exact ih (x3_24 + 1) (FP.fadd x2_24 (mf ((((6 : Int32) * i) + x3_24).toNatClampNeg))) oo hf H locs ls hP hD hS (lv_sub hl [0, 1, 2, 3] rfl) kk
  unfold f_X6_whole at hf
  refine lv_iload_n hx hb dX6_whole_0 rfl (lv_at hl 1 rfl) ?_
  obtain ⟨r1, hc2, hf⟩ := bd_inv hf
  refine xcS (As := [.int i]) (rest := []) (ws' := [(ma, .inr (6, [.int mst, .int mwy, .int mmk, .int mwt, .ref m1, .ref m2, .ref m3, .ref m4, .int mun, .ref m5, .ref m6, .int mln, .int mfi, .int mbe, .int mrs, .int mrw, .int mcl, .int mdo, .int mnu, .ref m7, .ref m8, .ref m9, .ref m10])), (m1, .inl (cI, 24, .inl mvl)), (m2, .inl (cI, 96, .inl mof)), (m3, .inl (cI, 168, .inl mw)), (m4, .inl (cF, 288, .inr (.inr (.inl mf)))), (m5, .inl (cZ, 2, .inl mik)), (m6, .inl (cI, 200, .inl mtx)), (m7, .inl (cI, 56, .inl mwd)), (m8, .inl (cI, 3, .inl msz)), (m9, .inl (cI, 3, .inl mso)), (m10, .inl (cI, 24, .inl mpl))]) ⟨hx, hb, hml, hown, hts⟩ (c_X6_isLayer l D B adK adV cC cF cI cZ cM cS i  r1 hc2) (va_cwS 1 hts gX6_whole_X6_isLayer rfl rfl rfl (by decide +kernel) ⟨Nat.le_of_ble_eq_true rfl, Nat.le_of_ble_eq_true rfl⟩) hK hP hD hS hB hE [] rfl rfl rfl rfl rfl hl.1 rfl (Nat.le_of_ble_eq_true rfl) dX6_whole_1 ⟨Nat.le_of_ble_eq_true rfl, Nat.le_of_ble_eq_true rfl⟩ (fun H locs hP hD hS => ?_)
  refine W.eq (g2 := F0 m 4 ls [.int r1]) rfl ?_
  refine lv_if_ne (tgt := 10) hx hb dX6_whole_4 (by decide) (fun c3 => ?_) (fun c3 => ?_)
  · have hf := if_n c3 hf
    refine lv_aload_n hx hb dX6_whole_10 rfl (lv_at hl 0 rfl) ?_
    refine va_get (D := D) (ci := 6) (v := .int mst) (C := RX6) (T := TX6) (N := 23) hx hb hts w0 hown hK hP 0 rfl rfl 0 (by decide) w1 (fun _ h9 => h9) rfl dX6_whole_11 ?_
    refine lv_if_ne (tgt := 20) hx hb dX6_whole_14 (by decide) (fun c4 => ?_) (fun c4 => ?_)
    · have hf := if_n c4 hf
      refine lv_fconst0 hx hb dX6_whole_20 ?_
      refine lv_fstore_n (lv' := [(2, .float FP.fconst0), (0, .ref ma), (1, .int i)]) hx hb dX6_whole_21 rfl hl (by decide) rfl (fun ls hl => ?_)
      refine lv_iconst (v := 0) hx hb dX6_whole_22 (by decide) ?_
      refine lv_istore_n (lv' := [(3, .int 0), (2, .float FP.fconst0), (0, .ref ma), (1, .int i)]) hx hb dX6_whole_23 rfl hl (by decide) rfl (fun ls hl => ?_)
      obtain ⟨⟨q8, q9⟩, hq12, hf⟩ := bd_inv hf
      refine L24 1000 0 FP.fconst0 (q8, q9) hq12 H locs ls hP hD hS (lv_sub hl [0, 1, 2, 3] rfl) (fun H locs ls hP hD hS hl => ?_)
      have hP : va_P D vwCl [(ma, .inr (6, [.int mst, .int mwy, .int mmk, .int mwt, .ref m1, .ref m2, .ref m3, .ref m4, .int mun, .ref m5, .ref m6, .int mln, .int mfi, .int mbe, .int mrs, .int mrw, .int mcl, .int mdo, .int mnu, .ref m7, .ref m8, .ref m9, .ref m10])), (m1, .inl (cI, 24, .inl mvl)), (m2, .inl (cI, 96, .inl mof)), (m3, .inl (cI, 168, .inl mw)), (m4, .inl (cF, 288, .inr (.inr (.inl mf)))), (m5, .inl (cZ, 2, .inl mik)), (m6, .inl (cI, 200, .inl mtx)), (m7, .inl (cI, 56, .inl mwd)), (m8, .inl (cI, 3, .inl msz)), (m9, .inl (cI, 3, .inl mso)), (m10, .inl (cI, 24, .inl mpl))] H := hP
      have hD : va_D A [(ma, .inr (6, [.int mst, .int mwy, .int mmk, .int mwt, .ref m1, .ref m2, .ref m3, .ref m4, .int mun, .ref m5, .ref m6, .int mln, .int mfi, .int mbe, .int mrs, .int mrw, .int mcl, .int mdo, .int mnu, .ref m7, .ref m8, .ref m9, .ref m10])), (m1, .inl (cI, 24, .inl mvl)), (m2, .inl (cI, 96, .inl mof)), (m3, .inl (cI, 168, .inl mw)), (m4, .inl (cF, 288, .inr (.inr (.inl mf)))), (m5, .inl (cZ, 2, .inl mik)), (m6, .inl (cI, 200, .inl mtx)), (m7, .inl (cI, 56, .inl mwd)), (m8, .inl (cI, 3, .inl msz)), (m9, .inl (cI, 3, .inl mso)), (m10, .inl (cI, 24, .inl mpl))] := hD
      have hl : lv_has ls 4 [(3, .int q8), (2, .float q9), (0, .ref ma), (1, .int i)] := hl
      refine lv_fload_n hx hb dX6_whole_50 rfl (lv_at hl 1 rfl) ?_
      refine lv_fconst1 hx hb dX6_whole_51 ?_
      obtain ⟨g10, hf⟩ := gd_inv hf
      refine lv_fsub hx hb dX6_whole_52 g10 ?_
      refine lv_ldcf hx hb hown w3 dX6_whole_53 ?_
      obtain ⟨g11, hf⟩ := gd_inv hf
      refine lv_fmul hx hb dX6_whole_55 g11 ?_
      refine lv_f2i hx hb dX6_whole_56 ?_
      refine lv_bipush (v := 100) hx hb dX6_whole_57 (by decide) ?_
      refine lv_iadd hx hb dX6_whole_59 ?_
      have h1 := Option.some.inj hf
      subst h1
      rw [hQ]
      exact W.iret (v := ((FP.f2i (FP.fmul (FP.fsub q9 FP.fconst1) 1266679808)) + 100)) hx hb hr (fun t ht hW => qEnd hP hS ht) hS.2.2 dX6_whole_60
    · have hf := if_p c4 hf
      refine lv_bipush (v := (-4)) hx hb dX6_whole_17 (by decide) ?_
      have h1 := Option.some.inj hf
      subst h1
      rw [hQ]
      exact W.iret (v := (-4)) hx hb hr (fun t ht hW => qEnd hP hS ht) hS.2.2 dX6_whole_19
  · have hf := if_p c3 hf
    refine lv_bipush (v := (-2)) hx hb dX6_whole_7 (by decide) ?_
    have h1 := Option.some.inj hf
    subst h1
    rw [hQ]
    exact W.iret (v := (-2)) hx hb hr (fun t ht hW => qEnd hP hS ht) hS.2.2 dX6_whole_9
set_option maxRecDepth 100000 in
set_option maxHeartbeats 4000000 in
theorem c_X6_nextOf (l : Launch) (D : va_G) (B : Nat) (adK adV : Nat → Nat) (cC cF cI cZ cM cS : ClassId) (ma : Nat) (mst : Int32) (mwy : Int32) (mmk : Int32) (mwt : Int32) (m1 : Nat) (m2 : Nat) (m3 : Nat) (m4 : Nat) (mun : Int32) (m5 : Nat) (m6 : Nat) (mln : Int32) (mfi : Int32) (mbe : Int32) (mrs : Int32) (mrw : Int32) (mcl : Int32) (mdo : Int32) (mnu : Int32) (m7 : Nat) (m8 : Nat) (m9 : Nat) (m10 : Nat) (mvl : Nat → Int32) (mof : Nat → Int32) (mw : Nat → Int32) (mf : Nat → UInt32) (mik : Nat → Int32) (mtx : Nat → Int32) (mwd : Nat → Int32) (msz : Nat → Int32) (mso : Nat → Int32) (mpl : Nat → Int32) (i : Int32) (zz : Int32) (hf : f_X6_nextOf mwy mof i = some zz) : Ct l yX6_nextOf wsX6_nextOf { frames := 0, cells := 0, slots := 0, locals := 0 } D B adK adV (tysX cC cF cI cZ cM cS) [.ref ma, .int i] [(ma, .inr (6, [.int mst, .int mwy, .int mmk, .int mwt, .ref m1, .ref m2, .ref m3, .ref m4, .int mun, .ref m5, .ref m6, .int mln, .int mfi, .int mbe, .int mrs, .int mrw, .int mcl, .int mdo, .int mnu, .ref m7, .ref m8, .ref m9, .ref m10])), (m1, .inl (cI, 24, .inl mvl)), (m2, .inl (cI, 96, .inl mof)), (m3, .inl (cI, 168, .inl mw)), (m4, .inl (cF, 288, .inr (.inr (.inl mf)))), (m5, .inl (cZ, 2, .inl mik)), (m6, .inl (cI, 200, .inl mtx)), (m7, .inl (cI, 56, .inl mwd)), (m8, .inl (cI, 3, .inl msz)), (m9, .inl (cI, 3, .inl mso)), (m10, .inl (cI, 24, .inl mpl))] [(ma, .inr (6, [.int mst, .int mwy, .int mmk, .int mwt, .ref m1, .ref m2, .ref m3, .ref m4, .int mun, .ref m5, .ref m6, .int mln, .int mfi, .int mbe, .int mrs, .int mrw, .int mcl, .int mdo, .int mnu, .ref m7, .ref m8, .ref m9, .ref m10])), (m1, .inl (cI, 24, .inl mvl)), (m2, .inl (cI, 96, .inl mof)), (m3, .inl (cI, 168, .inl mw)), (m4, .inl (cF, 288, .inr (.inr (.inl mf)))), (m5, .inl (cZ, 2, .inl mik)), (m6, .inl (cI, 200, .inl mtx)), (m7, .inl (cI, 56, .inl mwd)), (m8, .inl (cI, 3, .inl msz)), (m9, .inl (cI, 3, .inl mso)), (m10, .inl (cI, 24, .inl mpl))] (some (.int zz)) := by
  refine Ct.ofW (cc := cX6_nextOf) (maxL := 4) (ret := (some .int)) (by decide) rfl (Nat.le_of_ble_eq_true rfl) ?_
  intro p e s m args below meth c hx hb hr hml hts hown hlocks hnm hK hE A Q hQ hB H locs ls hP hD hS hl
  have hl : lv_has ls 4 [(0, .ref ma), (1, .int i)] := hl
  have w0 : ∀ w ∈ u_ws RX6 TX6 23, w ∈ wsX6_nextOf := by decide +kernel
  have w1 := hts (.fieldLink RX6 147 "MotionStatesModel" "ways" "I") (by decide +kernel)
  have w2 := hts (.fieldLink RX6 17 "MotionStatesModel" "of" "[I") (by decide +kernel)
  have L4 : ∀ (n : Nat) (x3_4 : Int32) (x2_4 : Int32) (oo : Int32 × Int32), f_X6_nextOf_L4 mwy mof i n x3_4 x2_4 = some oo → ∀ (H : Heap) (locs : List Loc) (ls : Array Slot), va_P D vwCl [(ma, .inr (6, [.int mst, .int mwy, .int mmk, .int mwt, .ref m1, .ref m2, .ref m3, .ref m4, .int mun, .ref m5, .ref m6, .int mln, .int mfi, .int mbe, .int mrs, .int mrw, .int mcl, .int mdo, .int mnu, .ref m7, .ref m8, .ref m9, .ref m10])), (m1, .inl (cI, 24, .inl mvl)), (m2, .inl (cI, 96, .inl mof)), (m3, .inl (cI, 168, .inl mw)), (m4, .inl (cF, 288, .inr (.inr (.inl mf)))), (m5, .inl (cZ, 2, .inl mik)), (m6, .inl (cI, 200, .inl mtx)), (m7, .inl (cI, 56, .inl mwd)), (m8, .inl (cI, 3, .inl msz)), (m9, .inl (cI, 3, .inl mso)), (m10, .inl (cI, 24, .inl mpl))] H → va_D A [(ma, .inr (6, [.int mst, .int mwy, .int mmk, .int mwt, .ref m1, .ref m2, .ref m3, .ref m4, .int mun, .ref m5, .ref m6, .int mln, .int mfi, .int mbe, .int mrs, .int mrw, .int mcl, .int mdo, .int mnu, .ref m7, .ref m8, .ref m9, .ref m10])), (m1, .inl (cI, 24, .inl mvl)), (m2, .inl (cI, 96, .inl mof)), (m3, .inl (cI, 168, .inl mw)), (m4, .inl (cF, 288, .inr (.inr (.inl mf)))), (m5, .inl (cZ, 2, .inl mik)), (m6, .inl (cI, 200, .inl mtx)), (m7, .inl (cI, 56, .inl mwd)), (m8, .inl (cI, 3, .inl msz)), (m9, .inl (cI, 3, .inl mso)), (m10, .inl (cI, 24, .inl mpl))] → va_S A s.heap H locs → lv_has ls 4 [(3, .int x3_4), (2, .int x2_4), (0, .ref ma), (1, .int i)] → (∀ (H : Heap) (locs : List Loc) (ls : Array Slot), va_P D vwCl [(ma, .inr (6, [.int mst, .int mwy, .int mmk, .int mwt, .ref m1, .ref m2, .ref m3, .ref m4, .int mun, .ref m5, .ref m6, .int mln, .int mfi, .int mbe, .int mrs, .int mrw, .int mcl, .int mdo, .int mnu, .ref m7, .ref m8, .ref m9, .ref m10])), (m1, .inl (cI, 24, .inl mvl)), (m2, .inl (cI, 96, .inl mof)), (m3, .inl (cI, 168, .inl mw)), (m4, .inl (cF, 288, .inr (.inr (.inl mf)))), (m5, .inl (cZ, 2, .inl mik)), (m6, .inl (cI, 200, .inl mtx)), (m7, .inl (cI, 56, .inl mwd)), (m8, .inl (cI, 3, .inl msz)), (m9, .inl (cI, 3, .inl mso)), (m10, .inl (cI, 24, .inl mpl))] H → va_D A [(ma, .inr (6, [.int mst, .int mwy, .int mmk, .int mwt, .ref m1, .ref m2, .ref m3, .ref m4, .int mun, .ref m5, .ref m6, .int mln, .int mfi, .int mbe, .int mrs, .int mrw, .int mcl, .int mdo, .int mnu, .ref m7, .ref m8, .ref m9, .ref m10])), (m1, .inl (cI, 24, .inl mvl)), (m2, .inl (cI, 96, .inl mof)), (m3, .inl (cI, 168, .inl mw)), (m4, .inl (cF, 288, .inr (.inr (.inl mf)))), (m5, .inl (cZ, 2, .inl mik)), (m6, .inl (cI, 200, .inl mtx)), (m7, .inl (cI, 56, .inl mwd)), (m8, .inl (cI, 3, .inl msz)), (m9, .inl (cI, 3, .inl mso)), (m10, .inl (cI, 24, .inl mpl))] → va_S A s.heap H locs → lv_has ls 4 [(3, .int oo.1), (2, .int oo.2), (0, .ref ma), (1, .int i)] → W p l e { frames := 0, cells := 0, slots := 0, locals := 0 } s m args below meth c H locs 0 0 Q (F0 m 69 ls [])) → W p l e { frames := 0, cells := 0, slots := 0, locals := 0 } s m args below meth c H locs 0 0 Q (F0 m 4 ls []) := by
    intro n
    induction n with
    | zero => intro x3_4 x2_4 oo hf; exact absurd hf (by simp [f_X6_nextOf_L4])
    | succ n ih =>
      intro x3_4 x2_4 oo hf H locs ls hP hD hS hl kk
      rw [f_X6_nextOf_L4] at hf
      refine lv_iload_n hx hb dX6_nextOf_4 rfl (lv_at hl 0 rfl) ?_
      refine lv_aload_n hx hb dX6_nextOf_5 rfl (lv_at hl 2 rfl) ?_
      refine va_get (D := D) (ci := 6) (v := .int mwy) (C := RX6) (T := TX6) (N := 23) hx hb hts w0 hown hK hP 0 rfl rfl 1 (by decide) w1 (fun _ h9 => h9) rfl dX6_nextOf_6 ?_
      refine lv_icmp_ge (tgt := 69) hx hb dX6_nextOf_9 (by decide) (fun c1 => ?_) (fun c1 => ?_)
      · have hf := if_p c1 hf
        have h1 := Option.some.inj hf
        subst h1
        exact kk H locs ls hP hD hS (lv_sub hl [0, 1, 2, 3] rfl)
      · have hf := if_n c1 hf
        refine lv_iload_n hx hb dX6_nextOf_12 rfl (lv_at hl 1 rfl) ?_
        refine lv_aload_n hx hb dX6_nextOf_13 rfl (lv_at hl 2 rfl) ?_
        refine va_get (D := D) (ci := 6) (v := .ref m2) (C := RX6) (T := TX6) (N := 23) hx hb hts w0 hown hK hP 0 rfl rfl 5 (by decide) w2 (fun _ h9 => h9) rfl dX6_nextOf_14 ?_
        refine lv_bipush (v := 8) hx hb dX6_nextOf_17 (by decide) ?_
        refine lv_iload_n hx hb dX6_nextOf_19 rfl (lv_at hl 0 rfl) ?_
        refine lv_imul hx hb dX6_nextOf_20 ?_
        refine lv_iconst (v := 0) hx hb dX6_nextOf_21 (by decide) ?_
        refine lv_iadd hx hb dX6_nextOf_22 ?_
        obtain ⟨g2, hf⟩ := gd_inv hf
        refine va_iald hx hb hK hP 2 2 rfl rfl g2 dX6_nextOf_23 ?_
        refine lv_iload_n hx hb dX6_nextOf_24 rfl (lv_at hl 3 rfl) ?_
        refine lv_icmp_eq (tgt := 44) hx hb dX6_nextOf_25 (by decide) (fun c3 => ?_) (fun c3 => ?_)
        · have hf := if_p c3 hf
          refine lv_iconst (v := 1) hx hb dX6_nextOf_44 (by decide) ?_
          refine lv_aload_n hx hb dX6_nextOf_45 rfl (lv_at hl 2 rfl) ?_
          refine va_get (D := D) (ci := 6) (v := .ref m2) (C := RX6) (T := TX6) (N := 23) hx hb hts w0 hown hK hP 0 rfl rfl 5 (by decide) w2 (fun _ h9 => h9) rfl dX6_nextOf_46 ?_
          refine lv_bipush (v := 8) hx hb dX6_nextOf_49 (by decide) ?_
          refine lv_iload_n hx hb dX6_nextOf_51 rfl (lv_at hl 0 rfl) ?_
          refine lv_imul hx hb dX6_nextOf_52 ?_
          refine lv_iconst (v := 1) hx hb dX6_nextOf_53 (by decide) ?_
          refine lv_iadd hx hb dX6_nextOf_54 ?_
          obtain ⟨g4, hf⟩ := gd_inv hf
          refine va_iald hx hb hK hP 2 2 rfl rfl g4 dX6_nextOf_55 ?_
          refine lv_ishl hx hb dX6_nextOf_56 ?_
          refine lv_goto (tgt := 61) hx hb dX6_nextOf_57 (by decide) ?_
          refine lv_ior hx hb dX6_nextOf_61 ?_
          refine lv_istore_n (lv' := [(2, .int (x2_4 ||| ((1 : Int32) <<< ((mof ((((8 : Int32) * x3_4) + 1).toNatClampNeg)) &&& 31)))), (3, .int x3_4), (0, .ref ma), (1, .int i)]) hx hb dX6_nextOf_62 rfl hl (by decide) rfl (fun ls hl => ?_)
          refine lv_iinc (v := x3_4 + 1) (lv' := [(3, .int (x3_4 + 1)), (2, .int (x2_4 ||| ((1 : Int32) <<< ((mof ((((8 : Int32) * x3_4) + 1).toNatClampNeg)) &&& 31)))), (0, .ref ma), (1, .int i)]) hx hb dX6_nextOf_63 hl (k := 1) rfl rfl (by decide) rfl (fun ls hl => ?_)
          refine lv_goto (tgt := 4) hx hb dX6_nextOf_66 (by decide) ?_
          exact ih (x3_4 + 1) (x2_4 ||| ((1 : Int32) <<< ((mof ((((8 : Int32) * x3_4) + 1).toNatClampNeg)) &&& 31))) oo hf H locs ls hP hD hS (lv_sub hl [0, 1, 2, 3] rfl) kk
        · have hf := if_n c3 hf
          refine lv_aload_n hx hb dX6_nextOf_28 rfl (lv_at hl 2 rfl) ?_
          refine va_get (D := D) (ci := 6) (v := .ref m2) (C := RX6) (T := TX6) (N := 23) hx hb hts w0 hown hK hP 0 rfl rfl 5 (by decide) w2 (fun _ h9 => h9) rfl dX6_nextOf_29 ?_
          refine lv_bipush (v := 8) hx hb dX6_nextOf_32 (by decide) ?_
          refine lv_iload_n hx hb dX6_nextOf_34 rfl (lv_at hl 0 rfl) ?_
          refine lv_imul hx hb dX6_nextOf_35 ?_
          refine lv_iconst (v := 0) hx hb dX6_nextOf_36 (by decide) ?_
          refine lv_iadd hx hb dX6_nextOf_37 ?_
          obtain ⟨g5, hf⟩ := gd_inv hf
          refine va_iald hx hb hK hP 2 2 rfl rfl g5 dX6_nextOf_38 ?_
          refine lv_bipush (v := 9) hx hb dX6_nextOf_39 (by decide) ?_
          refine lv_icmp_ne (tgt := 60) hx hb dX6_nextOf_41 (by decide) (fun c6 => ?_) (fun c6 => ?_)
          · have hf := if_n c6 hf
            refine lv_iconst (v := 0) hx hb dX6_nextOf_60 (by decide) ?_
            refine lv_ior hx hb dX6_nextOf_61 ?_
            refine lv_istore_n (lv' := [(2, .int (x2_4 ||| 0)), (3, .int x3_4), (0, .ref ma), (1, .int i)]) hx hb dX6_nextOf_62 rfl hl (by decide) rfl (fun ls hl => ?_)
            refine lv_iinc (v := x3_4 + 1) (lv' := [(3, .int (x3_4 + 1)), (2, .int (x2_4 ||| 0)), (0, .ref ma), (1, .int i)]) hx hb dX6_nextOf_63 hl (k := 1) rfl rfl (by decide) rfl (fun ls hl => ?_)
            refine lv_goto (tgt := 4) hx hb dX6_nextOf_66 (by decide) ?_
            exact ih (x3_4 + 1) (x2_4 ||| 0) oo hf H locs ls hP hD hS (lv_sub hl [0, 1, 2, 3] rfl) kk
          · have hf := if_p c6 hf
            refine lv_iconst (v := 1) hx hb dX6_nextOf_44 (by decide) ?_
            refine lv_aload_n hx hb dX6_nextOf_45 rfl (lv_at hl 2 rfl) ?_
            refine va_get (D := D) (ci := 6) (v := .ref m2) (C := RX6) (T := TX6) (N := 23) hx hb hts w0 hown hK hP 0 rfl rfl 5 (by decide) w2 (fun _ h9 => h9) rfl dX6_nextOf_46 ?_
            refine lv_bipush (v := 8) hx hb dX6_nextOf_49 (by decide) ?_
            refine lv_iload_n hx hb dX6_nextOf_51 rfl (lv_at hl 0 rfl) ?_
            refine lv_imul hx hb dX6_nextOf_52 ?_
            refine lv_iconst (v := 1) hx hb dX6_nextOf_53 (by decide) ?_
            refine lv_iadd hx hb dX6_nextOf_54 ?_
            obtain ⟨g7, hf⟩ := gd_inv hf
            refine va_iald hx hb hK hP 2 2 rfl rfl g7 dX6_nextOf_55 ?_
            refine lv_ishl hx hb dX6_nextOf_56 ?_
            refine lv_goto (tgt := 61) hx hb dX6_nextOf_57 (by decide) ?_
            refine lv_ior hx hb dX6_nextOf_61 ?_
            refine lv_istore_n (lv' := [(2, .int (x2_4 ||| ((1 : Int32) <<< ((mof ((((8 : Int32) * x3_4) + 1).toNatClampNeg)) &&& 31)))), (3, .int x3_4), (0, .ref ma), (1, .int i)]) hx hb dX6_nextOf_62 rfl hl (by decide) rfl (fun ls hl => ?_)
            refine lv_iinc (v := x3_4 + 1) (lv' := [(3, .int (x3_4 + 1)), (2, .int (x2_4 ||| ((1 : Int32) <<< ((mof ((((8 : Int32) * x3_4) + 1).toNatClampNeg)) &&& 31)))), (0, .ref ma), (1, .int i)]) hx hb dX6_nextOf_63 hl (k := 1) rfl rfl (by decide) rfl (fun ls hl => ?_)
            refine lv_goto (tgt := 4) hx hb dX6_nextOf_66 (by decide) ?_
            exact ih (x3_4 + 1) (x2_4 ||| ((1 : Int32) <<< ((mof ((((8 : Int32) * x3_4) + 1).toNatClampNeg)) &&& 31))) oo hf H locs ls hP hD hS (lv_sub hl [0, 1, 2, 3] rfl) kk
  unfold f_X6_nextOf at hf
  refine lv_iconst (v := 0) hx hb dX6_nextOf_0 (by decide) ?_
  refine lv_istore_n (lv' := [(2, .int 0), (0, .ref ma), (1, .int i)]) hx hb dX6_nextOf_1 rfl hl (by decide) rfl (fun ls hl => ?_)
  refine lv_iconst (v := 0) hx hb dX6_nextOf_2 (by decide) ?_
  refine lv_istore_n (lv' := [(3, .int 0), (2, .int 0), (0, .ref ma), (1, .int i)]) hx hb dX6_nextOf_3 rfl hl (by decide) rfl (fun ls hl => ?_)
  obtain ⟨⟨q8, q9⟩, hq10, hf⟩ := bd_inv hf
  refine L4 1000 0 0 (q8, q9) hq10 H locs ls hP hD hS (lv_sub hl [0, 1, 2, 3] rfl) (fun H locs ls hP hD hS hl => ?_)
  have hP : va_P D vwCl [(ma, .inr (6, [.int mst, .int mwy, .int mmk, .int mwt, .ref m1, .ref m2, .ref m3, .ref m4, .int mun, .ref m5, .ref m6, .int mln, .int mfi, .int mbe, .int mrs, .int mrw, .int mcl, .int mdo, .int mnu, .ref m7, .ref m8, .ref m9, .ref m10])), (m1, .inl (cI, 24, .inl mvl)), (m2, .inl (cI, 96, .inl mof)), (m3, .inl (cI, 168, .inl mw)), (m4, .inl (cF, 288, .inr (.inr (.inl mf)))), (m5, .inl (cZ, 2, .inl mik)), (m6, .inl (cI, 200, .inl mtx)), (m7, .inl (cI, 56, .inl mwd)), (m8, .inl (cI, 3, .inl msz)), (m9, .inl (cI, 3, .inl mso)), (m10, .inl (cI, 24, .inl mpl))] H := hP
  have hD : va_D A [(ma, .inr (6, [.int mst, .int mwy, .int mmk, .int mwt, .ref m1, .ref m2, .ref m3, .ref m4, .int mun, .ref m5, .ref m6, .int mln, .int mfi, .int mbe, .int mrs, .int mrw, .int mcl, .int mdo, .int mnu, .ref m7, .ref m8, .ref m9, .ref m10])), (m1, .inl (cI, 24, .inl mvl)), (m2, .inl (cI, 96, .inl mof)), (m3, .inl (cI, 168, .inl mw)), (m4, .inl (cF, 288, .inr (.inr (.inl mf)))), (m5, .inl (cZ, 2, .inl mik)), (m6, .inl (cI, 200, .inl mtx)), (m7, .inl (cI, 56, .inl mwd)), (m8, .inl (cI, 3, .inl msz)), (m9, .inl (cI, 3, .inl mso)), (m10, .inl (cI, 24, .inl mpl))] := hD
  have hl : lv_has ls 4 [(3, .int q8), (2, .int q9), (0, .ref ma), (1, .int i)] := hl
  refine lv_iload_n hx hb dX6_nextOf_69 rfl (lv_at hl 1 rfl) ?_
  have h1 := Option.some.inj hf
  subst h1
  rw [hQ]
  exact W.iret (v := q9) hx hb hr (fun t ht hW => qEnd hP hS ht) hS.2.2 dX6_nextOf_70
set_option maxRecDepth 100000 in
set_option maxHeartbeats 4000000 in
theorem c_X6_reach (l : Launch) (D : va_G) (B : Nat) (adK adV : Nat → Nat) (cC cF cI cZ cM cS : ClassId) (ma : Nat) (mst : Int32) (mwy : Int32) (mmk : Int32) (mwt : Int32) (m1 : Nat) (m2 : Nat) (m3 : Nat) (m4 : Nat) (mun : Int32) (m5 : Nat) (m6 : Nat) (mln : Int32) (mfi : Int32) (mbe : Int32) (mrs : Int32) (mrw : Int32) (mcl : Int32) (mdo : Int32) (mnu : Int32) (m7 : Nat) (m8 : Nat) (m9 : Nat) (m10 : Nat) (mvl : Nat → Int32) (mof : Nat → Int32) (mw : Nat → Int32) (mf : Nat → UInt32) (mik : Nat → Int32) (mtx : Nat → Int32) (mwd : Nat → Int32) (msz : Nat → Int32) (mso : Nat → Int32) (mpl : Nat → Int32) (i : Int32) (zz : Int32) (hf : f_X6_reach mst mwy mof i = some zz) : Ct l yX6_reach wsX6_reach { frames := 2, cells := 0, slots := 0, locals := 46 } D B adK adV (tysX cC cF cI cZ cM cS) [.ref ma, .int i] [(ma, .inr (6, [.int mst, .int mwy, .int mmk, .int mwt, .ref m1, .ref m2, .ref m3, .ref m4, .int mun, .ref m5, .ref m6, .int mln, .int mfi, .int mbe, .int mrs, .int mrw, .int mcl, .int mdo, .int mnu, .ref m7, .ref m8, .ref m9, .ref m10])), (m1, .inl (cI, 24, .inl mvl)), (m2, .inl (cI, 96, .inl mof)), (m3, .inl (cI, 168, .inl mw)), (m4, .inl (cF, 288, .inr (.inr (.inl mf)))), (m5, .inl (cZ, 2, .inl mik)), (m6, .inl (cI, 200, .inl mtx)), (m7, .inl (cI, 56, .inl mwd)), (m8, .inl (cI, 3, .inl msz)), (m9, .inl (cI, 3, .inl mso)), (m10, .inl (cI, 24, .inl mpl))] [(ma, .inr (6, [.int mst, .int mwy, .int mmk, .int mwt, .ref m1, .ref m2, .ref m3, .ref m4, .int mun, .ref m5, .ref m6, .int mln, .int mfi, .int mbe, .int mrs, .int mrw, .int mcl, .int mdo, .int mnu, .ref m7, .ref m8, .ref m9, .ref m10])), (m1, .inl (cI, 24, .inl mvl)), (m2, .inl (cI, 96, .inl mof)), (m3, .inl (cI, 168, .inl mw)), (m4, .inl (cF, 288, .inr (.inr (.inl mf)))), (m5, .inl (cZ, 2, .inl mik)), (m6, .inl (cI, 200, .inl mtx)), (m7, .inl (cI, 56, .inl mwd)), (m8, .inl (cI, 3, .inl msz)), (m9, .inl (cI, 3, .inl mso)), (m10, .inl (cI, 24, .inl mpl))] (some (.int zz)) := by
  refine Ct.ofW (cc := cX6_reach) (maxL := 5) (ret := (some .int)) (by decide) rfl (Nat.le_of_ble_eq_true rfl) ?_
  intro p e s m args below meth c hx hb hr hml hts hown hlocks hnm hK hE A Q hQ hB H locs ls hP hD hS hl
  have hl : lv_has ls 5 [(0, .ref ma), (1, .int i)] := hl
  have w0 : ∀ w ∈ u_ws RX6 TX6 23, w ∈ wsX6_reach := by decide +kernel
  have w1 := hts (.fieldLink RX6 144 "MotionStatesModel" "states" "I") (by decide +kernel)
  have L26 : ∀ (n : Nat) (x4_26 : Int32) (x2_26 : Int32) (x3_26 : Int32) (oo : Int32 × Int32 × Int32), f_X6_reach_L26 mst mwy mof n x4_26 x2_26 x3_26 = some oo → ∀ (H : Heap) (locs : List Loc) (ls : Array Slot), va_P D vwCl [(ma, .inr (6, [.int mst, .int mwy, .int mmk, .int mwt, .ref m1, .ref m2, .ref m3, .ref m4, .int mun, .ref m5, .ref m6, .int mln, .int mfi, .int mbe, .int mrs, .int mrw, .int mcl, .int mdo, .int mnu, .ref m7, .ref m8, .ref m9, .ref m10])), (m1, .inl (cI, 24, .inl mvl)), (m2, .inl (cI, 96, .inl mof)), (m3, .inl (cI, 168, .inl mw)), (m4, .inl (cF, 288, .inr (.inr (.inl mf)))), (m5, .inl (cZ, 2, .inl mik)), (m6, .inl (cI, 200, .inl mtx)), (m7, .inl (cI, 56, .inl mwd)), (m8, .inl (cI, 3, .inl msz)), (m9, .inl (cI, 3, .inl mso)), (m10, .inl (cI, 24, .inl mpl))] H → va_D A [(ma, .inr (6, [.int mst, .int mwy, .int mmk, .int mwt, .ref m1, .ref m2, .ref m3, .ref m4, .int mun, .ref m5, .ref m6, .int mln, .int mfi, .int mbe, .int mrs, .int mrw, .int mcl, .int mdo, .int mnu, .ref m7, .ref m8, .ref m9, .ref m10])), (m1, .inl (cI, 24, .inl mvl)), (m2, .inl (cI, 96, .inl mof)), (m3, .inl (cI, 168, .inl mw)), (m4, .inl (cF, 288, .inr (.inr (.inl mf)))), (m5, .inl (cZ, 2, .inl mik)), (m6, .inl (cI, 200, .inl mtx)), (m7, .inl (cI, 56, .inl mwd)), (m8, .inl (cI, 3, .inl msz)), (m9, .inl (cI, 3, .inl mso)), (m10, .inl (cI, 24, .inl mpl))] → va_S A s.heap H locs → lv_has ls 5 [(4, .int x4_26), (3, .int x3_26), (2, .int x2_26), (0, .ref ma), (1, .int i)] → (∀ (H : Heap) (locs : List Loc) (ls : Array Slot), va_P D vwCl [(ma, .inr (6, [.int mst, .int mwy, .int mmk, .int mwt, .ref m1, .ref m2, .ref m3, .ref m4, .int mun, .ref m5, .ref m6, .int mln, .int mfi, .int mbe, .int mrs, .int mrw, .int mcl, .int mdo, .int mnu, .ref m7, .ref m8, .ref m9, .ref m10])), (m1, .inl (cI, 24, .inl mvl)), (m2, .inl (cI, 96, .inl mof)), (m3, .inl (cI, 168, .inl mw)), (m4, .inl (cF, 288, .inr (.inr (.inl mf)))), (m5, .inl (cZ, 2, .inl mik)), (m6, .inl (cI, 200, .inl mtx)), (m7, .inl (cI, 56, .inl mwd)), (m8, .inl (cI, 3, .inl msz)), (m9, .inl (cI, 3, .inl mso)), (m10, .inl (cI, 24, .inl mpl))] H → va_D A [(ma, .inr (6, [.int mst, .int mwy, .int mmk, .int mwt, .ref m1, .ref m2, .ref m3, .ref m4, .int mun, .ref m5, .ref m6, .int mln, .int mfi, .int mbe, .int mrs, .int mrw, .int mcl, .int mdo, .int mnu, .ref m7, .ref m8, .ref m9, .ref m10])), (m1, .inl (cI, 24, .inl mvl)), (m2, .inl (cI, 96, .inl mof)), (m3, .inl (cI, 168, .inl mw)), (m4, .inl (cF, 288, .inr (.inr (.inl mf)))), (m5, .inl (cZ, 2, .inl mik)), (m6, .inl (cI, 200, .inl mtx)), (m7, .inl (cI, 56, .inl mwd)), (m8, .inl (cI, 3, .inl msz)), (m9, .inl (cI, 3, .inl mso)), (m10, .inl (cI, 24, .inl mpl))] → va_S A s.heap H locs → lv_has ls 5 [(4, .int oo.1), (3, .int oo.2.1), (2, .int oo.2.2), (0, .ref ma), (1, .int i)] → W p l e { frames := 2, cells := 0, slots := 0, locals := 46 } s m args below meth c H locs 0 0 Q (F0 m 63 ls [])) → W p l e { frames := 2, cells := 0, slots := 0, locals := 46 } s m args below meth c H locs 0 0 Q (F0 m 26 ls []) := by
    intro n
    induction n with
    | zero => intro x4_26 x2_26 x3_26 oo hf; exact absurd hf (by simp [f_X6_reach_L26])
    | succ n ih =>
      intro x4_26 x2_26 x3_26 oo hf H locs ls hP hD hS hl kk
      rw [f_X6_reach_L26] at hf
      refine lv_iload hx hb dX6_reach_26 (lv_at hl 0 rfl) ?_
      refine lv_aload_n hx hb dX6_reach_28 rfl (lv_at hl 3 rfl) ?_
      refine va_get (D := D) (ci := 6) (v := .int mst) (C := RX6) (T := TX6) (N := 23) hx hb hts w0 hown hK hP 0 rfl rfl 0 (by decide) w1 (fun _ h9 => h9) rfl dX6_reach_29 ?_
      refine lv_icmp_ge (tgt := 63) hx hb dX6_reach_32 (by decide) (fun c5 => ?_) (fun c5 => ?_)
      · have hf := if_p c5 hf
        have h1 := Option.some.inj hf
        subst h1
        exact kk H locs ls hP hD hS (lv_sub hl [0, 1, 2, 3, 4] rfl)
      · have hf := if_n c5 hf
        refine lv_iload_n hx hb dX6_reach_35 rfl (lv_at hl 2 rfl) ?_
        refine lv_iload_n hx hb dX6_reach_36 rfl (lv_at hl 2 rfl) ?_
        refine lv_iload hx hb dX6_reach_37 (lv_at hl 0 rfl) ?_
        obtain ⟨r6, hc7, hf⟩ := bd_inv hf
        refine xcS (As := [.int x2_26, .int x4_26]) (rest := [.int x2_26]) (ws' := [(ma, .inr (6, [.int mst, .int mwy, .int mmk, .int mwt, .ref m1, .ref m2, .ref m3, .ref m4, .int mun, .ref m5, .ref m6, .int mln, .int mfi, .int mbe, .int mrs, .int mrw, .int mcl, .int mdo, .int mnu, .ref m7, .ref m8, .ref m9, .ref m10])), (m1, .inl (cI, 24, .inl mvl)), (m2, .inl (cI, 96, .inl mof)), (m3, .inl (cI, 168, .inl mw)), (m4, .inl (cF, 288, .inr (.inr (.inl mf)))), (m5, .inl (cZ, 2, .inl mik)), (m6, .inl (cI, 200, .inl mtx)), (m7, .inl (cI, 56, .inl mwd)), (m8, .inl (cI, 3, .inl msz)), (m9, .inl (cI, 3, .inl mso)), (m10, .inl (cI, 24, .inl mpl))]) ⟨hx, hb, hml, hown, hts⟩ (c_X6_has l D B adK adV cC cF cI cZ cM cS x2_26 x4_26  r6 hc7) (va_cwS 2 hts gX6_reach_X6_has rfl rfl rfl (by decide +kernel) ⟨Nat.le_of_ble_eq_true rfl, Nat.le_of_ble_eq_true rfl⟩) hK hP hD hS hB hE [] rfl rfl rfl rfl rfl hl.1 rfl (Nat.le_of_ble_eq_true rfl) dX6_reach_39 ⟨Nat.le_of_ble_eq_true rfl, Nat.le_of_ble_eq_true rfl⟩ (fun H locs hP hD hS => ?_)
        refine W.eq (g2 := F0 m 42 ls [.int r6, .int x2_26]) rfl ?_
        refine lv_if_eq (tgt := 54) hx hb dX6_reach_42 (by decide) (fun c8 => ?_) (fun c8 => ?_)
        · have hf := if_p c8 hf
          refine lv_iconst (v := 0) hx hb dX6_reach_54 (by decide) ?_
          refine lv_ior hx hb dX6_reach_55 ?_
          refine lv_istore_n (lv' := [(2, .int (x2_26 ||| 0)), (4, .int x4_26), (3, .int x3_26), (0, .ref ma), (1, .int i)]) hx hb dX6_reach_56 rfl hl (by decide) rfl (fun ls hl => ?_)
          refine lv_iinc (v := x4_26 + 1) (lv' := [(4, .int (x4_26 + 1)), (2, .int (x2_26 ||| 0)), (3, .int x3_26), (0, .ref ma), (1, .int i)]) hx hb dX6_reach_57 hl (k := 1) rfl rfl (by decide) rfl (fun ls hl => ?_)
          refine lv_goto (tgt := 26) hx hb dX6_reach_60 (by decide) ?_
          exact ih (x4_26 + 1) (x2_26 ||| 0) x3_26 oo hf H locs ls hP hD hS (lv_sub hl [0, 2, 1, 3, 4] rfl) kk
        · have hf := if_n c8 hf
          refine lv_aload_n hx hb dX6_reach_45 rfl (lv_at hl 3 rfl) ?_
          refine lv_iload hx hb dX6_reach_46 (lv_at hl 0 rfl) ?_
          obtain ⟨r9, hc10, hf⟩ := bd_inv hf
          refine xcV (As := [.int x4_26]) (rest := [.int x2_26]) (ws' := [(ma, .inr (6, [.int mst, .int mwy, .int mmk, .int mwt, .ref m1, .ref m2, .ref m3, .ref m4, .int mun, .ref m5, .ref m6, .int mln, .int mfi, .int mbe, .int mrs, .int mrw, .int mcl, .int mdo, .int mnu, .ref m7, .ref m8, .ref m9, .ref m10])), (m1, .inl (cI, 24, .inl mvl)), (m2, .inl (cI, 96, .inl mof)), (m3, .inl (cI, 168, .inl mw)), (m4, .inl (cF, 288, .inr (.inr (.inl mf)))), (m5, .inl (cZ, 2, .inl mik)), (m6, .inl (cI, 200, .inl mtx)), (m7, .inl (cI, 56, .inl mwd)), (m8, .inl (cI, 3, .inl msz)), (m9, .inl (cI, 3, .inl mso)), (m10, .inl (cI, 24, .inl mpl))]) ⟨hx, hb, hml, hown, hts⟩ (c_X6_nextOf l D B adK adV cC cF cI cZ cM cS ma mst mwy mmk mwt m1 m2 m3 m4 mun m5 m6 mln mfi mbe mrs mrw mcl mdo mnu m7 m8 m9 m10 mvl mof mw mf mik mtx mwd msz mso mpl x4_26  r9 hc10) (cwV 1 hts gX6_reach_X6_nextOf rfl rfl rfl (by decide +kernel) ⟨Nat.le_of_ble_eq_true rfl, Nat.le_of_ble_eq_true rfl⟩) (va_recv hK hP (ci := 6) (q0 := 0) rfl rfl) hK hP hD hS hB hE [0, 1, 2, 3, 4, 5, 6, 7, 8, 9, 10] rfl rfl rfl rfl rfl hl.1 rfl (Nat.le_of_ble_eq_true rfl) dX6_reach_48 ⟨Nat.le_of_ble_eq_true rfl, Nat.le_of_ble_eq_true rfl⟩ (fun H locs hP hD hS => ?_)
          refine W.eq (g2 := F0 m 51 ls [.int r9, .int x2_26]) rfl ?_
          refine lv_goto (tgt := 55) hx hb dX6_reach_51 (by decide) ?_
          refine lv_ior hx hb dX6_reach_55 ?_
          refine lv_istore_n (lv' := [(2, .int (x2_26 ||| r9)), (4, .int x4_26), (3, .int x3_26), (0, .ref ma), (1, .int i)]) hx hb dX6_reach_56 rfl hl (by decide) rfl (fun ls hl => ?_)
          refine lv_iinc (v := x4_26 + 1) (lv' := [(4, .int (x4_26 + 1)), (2, .int (x2_26 ||| r9)), (3, .int x3_26), (0, .ref ma), (1, .int i)]) hx hb dX6_reach_57 hl (k := 1) rfl rfl (by decide) rfl (fun ls hl => ?_)
          refine lv_goto (tgt := 26) hx hb dX6_reach_60 (by decide) ?_
          exact ih (x4_26 + 1) (x2_26 ||| r9) x3_26 oo hf H locs ls hP hD hS (lv_sub hl [0, 2, 1, 3, 4] rfl) kk
  have L17 : ∀ (n : Nat) (x3_17 : Int32) (x2_17 : Int32) (oo : Int32 × Int32), f_X6_reach_L17 mst mwy mof n x3_17 x2_17 = some oo → ∀ (H : Heap) (locs : List Loc) (ls : Array Slot), va_P D vwCl [(ma, .inr (6, [.int mst, .int mwy, .int mmk, .int mwt, .ref m1, .ref m2, .ref m3, .ref m4, .int mun, .ref m5, .ref m6, .int mln, .int mfi, .int mbe, .int mrs, .int mrw, .int mcl, .int mdo, .int mnu, .ref m7, .ref m8, .ref m9, .ref m10])), (m1, .inl (cI, 24, .inl mvl)), (m2, .inl (cI, 96, .inl mof)), (m3, .inl (cI, 168, .inl mw)), (m4, .inl (cF, 288, .inr (.inr (.inl mf)))), (m5, .inl (cZ, 2, .inl mik)), (m6, .inl (cI, 200, .inl mtx)), (m7, .inl (cI, 56, .inl mwd)), (m8, .inl (cI, 3, .inl msz)), (m9, .inl (cI, 3, .inl mso)), (m10, .inl (cI, 24, .inl mpl))] H → va_D A [(ma, .inr (6, [.int mst, .int mwy, .int mmk, .int mwt, .ref m1, .ref m2, .ref m3, .ref m4, .int mun, .ref m5, .ref m6, .int mln, .int mfi, .int mbe, .int mrs, .int mrw, .int mcl, .int mdo, .int mnu, .ref m7, .ref m8, .ref m9, .ref m10])), (m1, .inl (cI, 24, .inl mvl)), (m2, .inl (cI, 96, .inl mof)), (m3, .inl (cI, 168, .inl mw)), (m4, .inl (cF, 288, .inr (.inr (.inl mf)))), (m5, .inl (cZ, 2, .inl mik)), (m6, .inl (cI, 200, .inl mtx)), (m7, .inl (cI, 56, .inl mwd)), (m8, .inl (cI, 3, .inl msz)), (m9, .inl (cI, 3, .inl mso)), (m10, .inl (cI, 24, .inl mpl))] → va_S A s.heap H locs → lv_has ls 5 [(3, .int x3_17), (2, .int x2_17), (0, .ref ma), (1, .int i)] → (∀ (H : Heap) (locs : List Loc) (ls : Array Slot), va_P D vwCl [(ma, .inr (6, [.int mst, .int mwy, .int mmk, .int mwt, .ref m1, .ref m2, .ref m3, .ref m4, .int mun, .ref m5, .ref m6, .int mln, .int mfi, .int mbe, .int mrs, .int mrw, .int mcl, .int mdo, .int mnu, .ref m7, .ref m8, .ref m9, .ref m10])), (m1, .inl (cI, 24, .inl mvl)), (m2, .inl (cI, 96, .inl mof)), (m3, .inl (cI, 168, .inl mw)), (m4, .inl (cF, 288, .inr (.inr (.inl mf)))), (m5, .inl (cZ, 2, .inl mik)), (m6, .inl (cI, 200, .inl mtx)), (m7, .inl (cI, 56, .inl mwd)), (m8, .inl (cI, 3, .inl msz)), (m9, .inl (cI, 3, .inl mso)), (m10, .inl (cI, 24, .inl mpl))] H → va_D A [(ma, .inr (6, [.int mst, .int mwy, .int mmk, .int mwt, .ref m1, .ref m2, .ref m3, .ref m4, .int mun, .ref m5, .ref m6, .int mln, .int mfi, .int mbe, .int mrs, .int mrw, .int mcl, .int mdo, .int mnu, .ref m7, .ref m8, .ref m9, .ref m10])), (m1, .inl (cI, 24, .inl mvl)), (m2, .inl (cI, 96, .inl mof)), (m3, .inl (cI, 168, .inl mw)), (m4, .inl (cF, 288, .inr (.inr (.inl mf)))), (m5, .inl (cZ, 2, .inl mik)), (m6, .inl (cI, 200, .inl mtx)), (m7, .inl (cI, 56, .inl mwd)), (m8, .inl (cI, 3, .inl msz)), (m9, .inl (cI, 3, .inl mso)), (m10, .inl (cI, 24, .inl mpl))] → va_S A s.heap H locs → lv_has ls 5 [(3, .int oo.1), (2, .int oo.2), (0, .ref ma), (1, .int i)] → W p l e { frames := 2, cells := 0, slots := 0, locals := 46 } s m args below meth c H locs 0 0 Q (F0 m 69 ls [])) → W p l e { frames := 2, cells := 0, slots := 0, locals := 46 } s m args below meth c H locs 0 0 Q (F0 m 17 ls []) := by
    intro n
    induction n with
    | zero => intro x3_17 x2_17 oo hf; exact absurd hf (by simp [f_X6_reach_L17])
    | succ n ih =>
      intro x3_17 x2_17 oo hf H locs ls hP hD hS hl kk
      rw [f_X6_reach_L17] at hf
      refine lv_iload_n hx hb dX6_reach_17 rfl (lv_at hl 0 rfl) ?_
      refine lv_bipush (v := 6) hx hb dX6_reach_18 (by decide) ?_
      refine lv_icmp_ge (tgt := 69) hx hb dX6_reach_20 (by decide) (fun c4 => ?_) (fun c4 => ?_)
      · have hf := if_p c4 hf
        have h1 := Option.some.inj hf
        subst h1
        exact kk H locs ls hP hD hS (lv_sub hl [0, 1, 2, 3] rfl)
      · have hf := if_n c4 hf
        refine lv_iconst (v := 0) hx hb dX6_reach_23 (by decide) ?_
        refine lv_istore (lv' := [(4, .int 0), (3, .int x3_17), (2, .int x2_17), (0, .ref ma), (1, .int i)]) hx hb dX6_reach_24 hl (by decide) rfl (fun ls hl => ?_)
        obtain ⟨⟨q11, q12, q13⟩, hq14, hf⟩ := bd_inv hf
        refine L26 1000 0 x2_17 x3_17 (q11, q12, q13) hq14 H locs ls hP hD hS (lv_sub hl [0, 1, 2, 3, 4] rfl) (fun H locs ls hP hD hS hl => ?_)
        have hP : va_P D vwCl [(ma, .inr (6, [.int mst, .int mwy, .int mmk, .int mwt, .ref m1, .ref m2, .ref m3, .ref m4, .int mun, .ref m5, .ref m6, .int mln, .int mfi, .int mbe, .int mrs, .int mrw, .int mcl, .int mdo, .int mnu, .ref m7, .ref m8, .ref m9, .ref m10])), (m1, .inl (cI, 24, .inl mvl)), (m2, .inl (cI, 96, .inl mof)), (m3, .inl (cI, 168, .inl mw)), (m4, .inl (cF, 288, .inr (.inr (.inl mf)))), (m5, .inl (cZ, 2, .inl mik)), (m6, .inl (cI, 200, .inl mtx)), (m7, .inl (cI, 56, .inl mwd)), (m8, .inl (cI, 3, .inl msz)), (m9, .inl (cI, 3, .inl mso)), (m10, .inl (cI, 24, .inl mpl))] H := hP
        have hD : va_D A [(ma, .inr (6, [.int mst, .int mwy, .int mmk, .int mwt, .ref m1, .ref m2, .ref m3, .ref m4, .int mun, .ref m5, .ref m6, .int mln, .int mfi, .int mbe, .int mrs, .int mrw, .int mcl, .int mdo, .int mnu, .ref m7, .ref m8, .ref m9, .ref m10])), (m1, .inl (cI, 24, .inl mvl)), (m2, .inl (cI, 96, .inl mof)), (m3, .inl (cI, 168, .inl mw)), (m4, .inl (cF, 288, .inr (.inr (.inl mf)))), (m5, .inl (cZ, 2, .inl mik)), (m6, .inl (cI, 200, .inl mtx)), (m7, .inl (cI, 56, .inl mwd)), (m8, .inl (cI, 3, .inl msz)), (m9, .inl (cI, 3, .inl mso)), (m10, .inl (cI, 24, .inl mpl))] := hD
        have hl : lv_has ls 5 [(4, .int q11), (3, .int q12), (2, .int q13), (0, .ref ma), (1, .int i)] := hl
        refine lv_iinc (v := q12 + 1) (lv' := [(3, .int (q12 + 1)), (4, .int q11), (2, .int q13), (0, .ref ma), (1, .int i)]) hx hb dX6_reach_63 hl (k := 1) rfl rfl (by decide) rfl (fun ls hl => ?_)
        refine lv_goto (tgt := 17) hx hb dX6_reach_66 (by decide) ?_
        exact ih (q12 + 1) q13 oo hf H locs ls hP hD hS (lv_sub hl [0, 2, 3, 4] rfl) kk
  unfold f_X6_reach at hf
  refine lv_aload_n hx hb dX6_reach_0 rfl (lv_at hl 0 rfl) ?_
  refine lv_iload_n hx hb dX6_reach_1 rfl (lv_at hl 1 rfl) ?_
  obtain ⟨r1, hc2, hf⟩ := bd_inv hf
  refine xcV (As := [.int i]) (rest := []) (ws' := [(ma, .inr (6, [.int mst, .int mwy, .int mmk, .int mwt, .ref m1, .ref m2, .ref m3, .ref m4, .int mun, .ref m5, .ref m6, .int mln, .int mfi, .int mbe, .int mrs, .int mrw, .int mcl, .int mdo, .int mnu, .ref m7, .ref m8, .ref m9, .ref m10])), (m1, .inl (cI, 24, .inl mvl)), (m2, .inl (cI, 96, .inl mof)), (m3, .inl (cI, 168, .inl mw)), (m4, .inl (cF, 288, .inr (.inr (.inl mf)))), (m5, .inl (cZ, 2, .inl mik)), (m6, .inl (cI, 200, .inl mtx)), (m7, .inl (cI, 56, .inl mwd)), (m8, .inl (cI, 3, .inl msz)), (m9, .inl (cI, 3, .inl mso)), (m10, .inl (cI, 24, .inl mpl))]) ⟨hx, hb, hml, hown, hts⟩ (c_X6_isState l D B adK adV cC cF cI cZ cM cS ma mst mwy mmk mwt m1 m2 m3 m4 mun m5 m6 mln mfi mbe mrs mrw mcl mdo mnu m7 m8 m9 m10 mvl mof mw mf mik mtx mwd msz mso mpl i  r1 hc2) (cwV 1 hts gX6_reach_X6_isState rfl rfl rfl (by decide +kernel) ⟨Nat.le_of_ble_eq_true rfl, Nat.le_of_ble_eq_true rfl⟩) (va_recv hK hP (ci := 6) (q0 := 0) rfl rfl) hK hP hD hS hB hE [0, 1, 2, 3, 4, 5, 6, 7, 8, 9, 10] rfl rfl rfl rfl rfl hl.1 rfl (Nat.le_of_ble_eq_true rfl) dX6_reach_2 ⟨Nat.le_of_ble_eq_true rfl, Nat.le_of_ble_eq_true rfl⟩ (fun H locs hP hD hS => ?_)
  refine W.eq (g2 := F0 m 5 ls [.int r1]) rfl ?_
  refine lv_if_ne (tgt := 11) hx hb dX6_reach_5 (by decide) (fun c3 => ?_) (fun c3 => ?_)
  · have hf := if_n c3 hf
    refine lv_iconst (v := 1) hx hb dX6_reach_11 (by decide) ?_
    refine lv_iload_n hx hb dX6_reach_12 rfl (lv_at hl 1 rfl) ?_
    refine lv_ishl hx hb dX6_reach_13 ?_
    refine lv_istore_n (lv' := [(2, .int ((1 : Int32) <<< (i &&& 31))), (0, .ref ma), (1, .int i)]) hx hb dX6_reach_14 rfl hl (by decide) rfl (fun ls hl => ?_)
    refine lv_iconst (v := 0) hx hb dX6_reach_15 (by decide) ?_
    refine lv_istore_n (lv' := [(3, .int 0), (2, .int ((1 : Int32) <<< (i &&& 31))), (0, .ref ma), (1, .int i)]) hx hb dX6_reach_16 rfl hl (by decide) rfl (fun ls hl => ?_)
    obtain ⟨⟨q15, q16⟩, hq17, hf⟩ := bd_inv hf
    refine L17 1000 0 ((1 : Int32) <<< (i &&& 31)) (q15, q16) hq17 H locs ls hP hD hS (lv_sub hl [0, 1, 2, 3] rfl) (fun H locs ls hP hD hS hl => ?_)
    have hP : va_P D vwCl [(ma, .inr (6, [.int mst, .int mwy, .int mmk, .int mwt, .ref m1, .ref m2, .ref m3, .ref m4, .int mun, .ref m5, .ref m6, .int mln, .int mfi, .int mbe, .int mrs, .int mrw, .int mcl, .int mdo, .int mnu, .ref m7, .ref m8, .ref m9, .ref m10])), (m1, .inl (cI, 24, .inl mvl)), (m2, .inl (cI, 96, .inl mof)), (m3, .inl (cI, 168, .inl mw)), (m4, .inl (cF, 288, .inr (.inr (.inl mf)))), (m5, .inl (cZ, 2, .inl mik)), (m6, .inl (cI, 200, .inl mtx)), (m7, .inl (cI, 56, .inl mwd)), (m8, .inl (cI, 3, .inl msz)), (m9, .inl (cI, 3, .inl mso)), (m10, .inl (cI, 24, .inl mpl))] H := hP
    have hD : va_D A [(ma, .inr (6, [.int mst, .int mwy, .int mmk, .int mwt, .ref m1, .ref m2, .ref m3, .ref m4, .int mun, .ref m5, .ref m6, .int mln, .int mfi, .int mbe, .int mrs, .int mrw, .int mcl, .int mdo, .int mnu, .ref m7, .ref m8, .ref m9, .ref m10])), (m1, .inl (cI, 24, .inl mvl)), (m2, .inl (cI, 96, .inl mof)), (m3, .inl (cI, 168, .inl mw)), (m4, .inl (cF, 288, .inr (.inr (.inl mf)))), (m5, .inl (cZ, 2, .inl mik)), (m6, .inl (cI, 200, .inl mtx)), (m7, .inl (cI, 56, .inl mwd)), (m8, .inl (cI, 3, .inl msz)), (m9, .inl (cI, 3, .inl mso)), (m10, .inl (cI, 24, .inl mpl))] := hD
    have hl : lv_has ls 5 [(3, .int q15), (2, .int q16), (0, .ref ma), (1, .int i)] := hl
    refine lv_iload_n hx hb dX6_reach_69 rfl (lv_at hl 1 rfl) ?_
    have h1 := Option.some.inj hf
    subst h1
    rw [hQ]
    exact W.iret (v := q16) hx hb hr (fun t ht hW => qEnd hP hS ht) hS.2.2 dX6_reach_70
  · have hf := if_p c3 hf
    refine lv_bipush (v := (-2)) hx hb dX6_reach_8 (by decide) ?_
    have h1 := Option.some.inj hf
    subst h1
    rw [hQ]
    exact W.iret (v := (-2)) hx hb hr (fun t ht hW => qEnd hP hS ht) hS.2.2 dX6_reach_10
set_option maxRecDepth 100000 in
set_option maxHeartbeats 4000000 in
theorem c_X6_dead (l : Launch) (D : va_G) (B : Nat) (adK adV : Nat → Nat) (cC cF cI cZ cM cS : ClassId) (ma : Nat) (mst : Int32) (mwy : Int32) (mmk : Int32) (mwt : Int32) (m1 : Nat) (m2 : Nat) (m3 : Nat) (m4 : Nat) (mun : Int32) (m5 : Nat) (m6 : Nat) (mln : Int32) (mfi : Int32) (mbe : Int32) (mrs : Int32) (mrw : Int32) (mcl : Int32) (mdo : Int32) (mnu : Int32) (m7 : Nat) (m8 : Nat) (m9 : Nat) (m10 : Nat) (mvl : Nat → Int32) (mof : Nat → Int32) (mw : Nat → Int32) (mf : Nat → UInt32) (mik : Nat → Int32) (mtx : Nat → Int32) (mwd : Nat → Int32) (msz : Nat → Int32) (mso : Nat → Int32) (mpl : Nat → Int32) (zz : Int32) (hf : f_X6_dead mst mwy mof = some zz) : Ct l yX6_dead wsX6_dead { frames := 1, cells := 0, slots := 0, locals := 23 } D B adK adV (tysX cC cF cI cZ cM cS) [.ref ma] [(ma, .inr (6, [.int mst, .int mwy, .int mmk, .int mwt, .ref m1, .ref m2, .ref m3, .ref m4, .int mun, .ref m5, .ref m6, .int mln, .int mfi, .int mbe, .int mrs, .int mrw, .int mcl, .int mdo, .int mnu, .ref m7, .ref m8, .ref m9, .ref m10])), (m1, .inl (cI, 24, .inl mvl)), (m2, .inl (cI, 96, .inl mof)), (m3, .inl (cI, 168, .inl mw)), (m4, .inl (cF, 288, .inr (.inr (.inl mf)))), (m5, .inl (cZ, 2, .inl mik)), (m6, .inl (cI, 200, .inl mtx)), (m7, .inl (cI, 56, .inl mwd)), (m8, .inl (cI, 3, .inl msz)), (m9, .inl (cI, 3, .inl mso)), (m10, .inl (cI, 24, .inl mpl))] [(ma, .inr (6, [.int mst, .int mwy, .int mmk, .int mwt, .ref m1, .ref m2, .ref m3, .ref m4, .int mun, .ref m5, .ref m6, .int mln, .int mfi, .int mbe, .int mrs, .int mrw, .int mcl, .int mdo, .int mnu, .ref m7, .ref m8, .ref m9, .ref m10])), (m1, .inl (cI, 24, .inl mvl)), (m2, .inl (cI, 96, .inl mof)), (m3, .inl (cI, 168, .inl mw)), (m4, .inl (cF, 288, .inr (.inr (.inl mf)))), (m5, .inl (cZ, 2, .inl mik)), (m6, .inl (cI, 200, .inl mtx)), (m7, .inl (cI, 56, .inl mwd)), (m8, .inl (cI, 3, .inl msz)), (m9, .inl (cI, 3, .inl mso)), (m10, .inl (cI, 24, .inl mpl))] (some (.int zz)) := by
  refine Ct.ofW (cc := cX6_dead) (maxL := 3) (ret := (some .int)) (by decide) rfl (Nat.le_of_ble_eq_true rfl) ?_
  intro p e s m args below meth c hx hb hr hml hts hown hlocks hnm hK hE A Q hQ hB H locs ls hP hD hS hl
  have hl : lv_has ls 3 [(0, .ref ma)] := hl
  have w0 : ∀ w ∈ u_ws RX6 TX6 23, w ∈ wsX6_dead := by decide +kernel
  have w1 := hts (.fieldLink RX6 144 "MotionStatesModel" "states" "I") (by decide +kernel)
  have L14 : ∀ (n : Nat) (x2_14 : Int32) (x1_14 : Int32) (oo : Int32 × Int32), f_X6_dead_L14 mst mwy mof n x2_14 x1_14 = some oo → ∀ (H : Heap) (locs : List Loc) (ls : Array Slot), va_P D vwCl [(ma, .inr (6, [.int mst, .int mwy, .int mmk, .int mwt, .ref m1, .ref m2, .ref m3, .ref m4, .int mun, .ref m5, .ref m6, .int mln, .int mfi, .int mbe, .int mrs, .int mrw, .int mcl, .int mdo, .int mnu, .ref m7, .ref m8, .ref m9, .ref m10])), (m1, .inl (cI, 24, .inl mvl)), (m2, .inl (cI, 96, .inl mof)), (m3, .inl (cI, 168, .inl mw)), (m4, .inl (cF, 288, .inr (.inr (.inl mf)))), (m5, .inl (cZ, 2, .inl mik)), (m6, .inl (cI, 200, .inl mtx)), (m7, .inl (cI, 56, .inl mwd)), (m8, .inl (cI, 3, .inl msz)), (m9, .inl (cI, 3, .inl mso)), (m10, .inl (cI, 24, .inl mpl))] H → va_D A [(ma, .inr (6, [.int mst, .int mwy, .int mmk, .int mwt, .ref m1, .ref m2, .ref m3, .ref m4, .int mun, .ref m5, .ref m6, .int mln, .int mfi, .int mbe, .int mrs, .int mrw, .int mcl, .int mdo, .int mnu, .ref m7, .ref m8, .ref m9, .ref m10])), (m1, .inl (cI, 24, .inl mvl)), (m2, .inl (cI, 96, .inl mof)), (m3, .inl (cI, 168, .inl mw)), (m4, .inl (cF, 288, .inr (.inr (.inl mf)))), (m5, .inl (cZ, 2, .inl mik)), (m6, .inl (cI, 200, .inl mtx)), (m7, .inl (cI, 56, .inl mwd)), (m8, .inl (cI, 3, .inl msz)), (m9, .inl (cI, 3, .inl mso)), (m10, .inl (cI, 24, .inl mpl))] → va_S A s.heap H locs → lv_has ls 3 [(2, .int x2_14), (1, .int x1_14), (0, .ref ma)] → (∀ (H : Heap) (locs : List Loc) (ls : Array Slot), va_P D vwCl [(ma, .inr (6, [.int mst, .int mwy, .int mmk, .int mwt, .ref m1, .ref m2, .ref m3, .ref m4, .int mun, .ref m5, .ref m6, .int mln, .int mfi, .int mbe, .int mrs, .int mrw, .int mcl, .int mdo, .int mnu, .ref m7, .ref m8, .ref m9, .ref m10])), (m1, .inl (cI, 24, .inl mvl)), (m2, .inl (cI, 96, .inl mof)), (m3, .inl (cI, 168, .inl mw)), (m4, .inl (cF, 288, .inr (.inr (.inl mf)))), (m5, .inl (cZ, 2, .inl mik)), (m6, .inl (cI, 200, .inl mtx)), (m7, .inl (cI, 56, .inl mwd)), (m8, .inl (cI, 3, .inl msz)), (m9, .inl (cI, 3, .inl mso)), (m10, .inl (cI, 24, .inl mpl))] H → va_D A [(ma, .inr (6, [.int mst, .int mwy, .int mmk, .int mwt, .ref m1, .ref m2, .ref m3, .ref m4, .int mun, .ref m5, .ref m6, .int mln, .int mfi, .int mbe, .int mrs, .int mrw, .int mcl, .int mdo, .int mnu, .ref m7, .ref m8, .ref m9, .ref m10])), (m1, .inl (cI, 24, .inl mvl)), (m2, .inl (cI, 96, .inl mof)), (m3, .inl (cI, 168, .inl mw)), (m4, .inl (cF, 288, .inr (.inr (.inl mf)))), (m5, .inl (cZ, 2, .inl mik)), (m6, .inl (cI, 200, .inl mtx)), (m7, .inl (cI, 56, .inl mwd)), (m8, .inl (cI, 3, .inl msz)), (m9, .inl (cI, 3, .inl mso)), (m10, .inl (cI, 24, .inl mpl))] → va_S A s.heap H locs → lv_has ls 3 [(2, .int oo.1), (1, .int oo.2), (0, .ref ma)] → W p l e { frames := 1, cells := 0, slots := 0, locals := 23 } s m args below meth c H locs 0 0 Q (F0 m 52 ls [])) → W p l e { frames := 1, cells := 0, slots := 0, locals := 23 } s m args below meth c H locs 0 0 Q (F0 m 14 ls []) := by
    intro n
    induction n with
    | zero => intro x2_14 x1_14 oo hf; exact absurd hf (by simp [f_X6_dead_L14])
    | succ n ih =>
      intro x2_14 x1_14 oo hf H locs ls hP hD hS hl kk
      rw [f_X6_dead_L14] at hf
      refine lv_iload_n hx hb dX6_dead_14 rfl (lv_at hl 0 rfl) ?_
      refine lv_aload_n hx hb dX6_dead_15 rfl (lv_at hl 2 rfl) ?_
      refine va_get (D := D) (ci := 6) (v := .int mst) (C := RX6) (T := TX6) (N := 23) hx hb hts w0 hown hK hP 0 rfl rfl 0 (by decide) w1 (fun _ h9 => h9) rfl dX6_dead_16 ?_
      refine lv_icmp_ge (tgt := 52) hx hb dX6_dead_19 (by decide) (fun c2 => ?_) (fun c2 => ?_)
      · have hf := if_p c2 hf
        have h1 := Option.some.inj hf
        subst h1
        exact kk H locs ls hP hD hS (lv_sub hl [0, 1, 2] rfl)
      · have hf := if_n c2 hf
        refine lv_iload_n hx hb dX6_dead_22 rfl (lv_at hl 1 rfl) ?_
        refine lv_aload_n hx hb dX6_dead_23 rfl (lv_at hl 2 rfl) ?_
        refine lv_iload_n hx hb dX6_dead_24 rfl (lv_at hl 0 rfl) ?_
        obtain ⟨r3, hc4, hf⟩ := bd_inv hf
        refine xcV (As := [.int x2_14]) (rest := [.int x1_14]) (ws' := [(ma, .inr (6, [.int mst, .int mwy, .int mmk, .int mwt, .ref m1, .ref m2, .ref m3, .ref m4, .int mun, .ref m5, .ref m6, .int mln, .int mfi, .int mbe, .int mrs, .int mrw, .int mcl, .int mdo, .int mnu, .ref m7, .ref m8, .ref m9, .ref m10])), (m1, .inl (cI, 24, .inl mvl)), (m2, .inl (cI, 96, .inl mof)), (m3, .inl (cI, 168, .inl mw)), (m4, .inl (cF, 288, .inr (.inr (.inl mf)))), (m5, .inl (cZ, 2, .inl mik)), (m6, .inl (cI, 200, .inl mtx)), (m7, .inl (cI, 56, .inl mwd)), (m8, .inl (cI, 3, .inl msz)), (m9, .inl (cI, 3, .inl mso)), (m10, .inl (cI, 24, .inl mpl))]) ⟨hx, hb, hml, hown, hts⟩ (c_X6_nextOf l D B adK adV cC cF cI cZ cM cS ma mst mwy mmk mwt m1 m2 m3 m4 mun m5 m6 mln mfi mbe mrs mrw mcl mdo mnu m7 m8 m9 m10 mvl mof mw mf mik mtx mwd msz mso mpl x2_14  r3 hc4) (cwV 1 hts gX6_dead_X6_nextOf rfl rfl rfl (by decide +kernel) ⟨Nat.le_of_ble_eq_true rfl, Nat.le_of_ble_eq_true rfl⟩) (va_recv hK hP (ci := 6) (q0 := 0) rfl rfl) hK hP hD hS hB hE [0, 1, 2, 3, 4, 5, 6, 7, 8, 9, 10] rfl rfl rfl rfl rfl hl.1 rfl (Nat.le_of_ble_eq_true rfl) dX6_dead_25 ⟨Nat.le_of_ble_eq_true rfl, Nat.le_of_ble_eq_true rfl⟩ (fun H locs hP hD hS => ?_)
        refine W.eq (g2 := F0 m 28 ls [.int r3, .int x1_14]) rfl ?_
        refine lv_iconst (v := 1) hx hb dX6_dead_28 (by decide) ?_
        refine lv_iload_n hx hb dX6_dead_29 rfl (lv_at hl 0 rfl) ?_
        refine lv_ishl hx hb dX6_dead_30 ?_
        refine lv_iconst (v := (-1)) hx hb dX6_dead_31 (by decide) ?_
        refine lv_ixor hx hb dX6_dead_32 ?_
        refine lv_iand hx hb dX6_dead_33 ?_
        refine lv_if_ne (tgt := 43) hx hb dX6_dead_34 (by decide) (fun c5 => ?_) (fun c5 => ?_)
        · have hf := if_n c5 hf
          refine lv_iconst (v := 0) hx hb dX6_dead_43 (by decide) ?_
          refine lv_ior hx hb dX6_dead_44 ?_
          refine lv_istore_n (lv' := [(1, .int (x1_14 ||| 0)), (2, .int x2_14), (0, .ref ma)]) hx hb dX6_dead_45 rfl hl (by decide) rfl (fun ls hl => ?_)
          refine lv_iinc (v := x2_14 + 1) (lv' := [(2, .int (x2_14 + 1)), (1, .int (x1_14 ||| 0)), (0, .ref ma)]) hx hb dX6_dead_46 hl (k := 1) rfl rfl (by decide) rfl (fun ls hl => ?_)
          refine lv_goto (tgt := 14) hx hb dX6_dead_49 (by decide) ?_
          exact ih (x2_14 + 1) (x1_14 ||| 0) oo hf H locs ls hP hD hS (lv_sub hl [0, 1, 2] rfl) kk
        · have hf := if_p c5 hf
          refine lv_iconst (v := 1) hx hb dX6_dead_37 (by decide) ?_
          refine lv_iload_n hx hb dX6_dead_38 rfl (lv_at hl 0 rfl) ?_
          refine lv_ishl hx hb dX6_dead_39 ?_
          refine lv_goto (tgt := 44) hx hb dX6_dead_40 (by decide) ?_
          refine lv_ior hx hb dX6_dead_44 ?_
          refine lv_istore_n (lv' := [(1, .int (x1_14 ||| ((1 : Int32) <<< (x2_14 &&& 31)))), (2, .int x2_14), (0, .ref ma)]) hx hb dX6_dead_45 rfl hl (by decide) rfl (fun ls hl => ?_)
          refine lv_iinc (v := x2_14 + 1) (lv' := [(2, .int (x2_14 + 1)), (1, .int (x1_14 ||| ((1 : Int32) <<< (x2_14 &&& 31)))), (0, .ref ma)]) hx hb dX6_dead_46 hl (k := 1) rfl rfl (by decide) rfl (fun ls hl => ?_)
          refine lv_goto (tgt := 14) hx hb dX6_dead_49 (by decide) ?_
          exact ih (x2_14 + 1) (x1_14 ||| ((1 : Int32) <<< (x2_14 &&& 31))) oo hf H locs ls hP hD hS (lv_sub hl [0, 1, 2] rfl) kk
  unfold f_X6_dead at hf
  refine lv_aload_n hx hb dX6_dead_0 rfl (lv_at hl 0 rfl) ?_
  refine va_get (D := D) (ci := 6) (v := .int mst) (C := RX6) (T := TX6) (N := 23) hx hb hts w0 hown hK hP 0 rfl rfl 0 (by decide) w1 (fun _ h9 => h9) rfl dX6_dead_1 ?_
  refine lv_if_ne (tgt := 10) hx hb dX6_dead_4 (by decide) (fun c1 => ?_) (fun c1 => ?_)
  · have hf := if_n c1 hf
    refine lv_iconst (v := 0) hx hb dX6_dead_10 (by decide) ?_
    refine lv_istore_n (lv' := [(1, .int 0), (0, .ref ma)]) hx hb dX6_dead_11 rfl hl (by decide) rfl (fun ls hl => ?_)
    refine lv_iconst (v := 0) hx hb dX6_dead_12 (by decide) ?_
    refine lv_istore_n (lv' := [(2, .int 0), (1, .int 0), (0, .ref ma)]) hx hb dX6_dead_13 rfl hl (by decide) rfl (fun ls hl => ?_)
    obtain ⟨⟨q6, q7⟩, hq8, hf⟩ := bd_inv hf
    refine L14 1000 0 0 (q6, q7) hq8 H locs ls hP hD hS (lv_sub hl [0, 1, 2] rfl) (fun H locs ls hP hD hS hl => ?_)
    have hP : va_P D vwCl [(ma, .inr (6, [.int mst, .int mwy, .int mmk, .int mwt, .ref m1, .ref m2, .ref m3, .ref m4, .int mun, .ref m5, .ref m6, .int mln, .int mfi, .int mbe, .int mrs, .int mrw, .int mcl, .int mdo, .int mnu, .ref m7, .ref m8, .ref m9, .ref m10])), (m1, .inl (cI, 24, .inl mvl)), (m2, .inl (cI, 96, .inl mof)), (m3, .inl (cI, 168, .inl mw)), (m4, .inl (cF, 288, .inr (.inr (.inl mf)))), (m5, .inl (cZ, 2, .inl mik)), (m6, .inl (cI, 200, .inl mtx)), (m7, .inl (cI, 56, .inl mwd)), (m8, .inl (cI, 3, .inl msz)), (m9, .inl (cI, 3, .inl mso)), (m10, .inl (cI, 24, .inl mpl))] H := hP
    have hD : va_D A [(ma, .inr (6, [.int mst, .int mwy, .int mmk, .int mwt, .ref m1, .ref m2, .ref m3, .ref m4, .int mun, .ref m5, .ref m6, .int mln, .int mfi, .int mbe, .int mrs, .int mrw, .int mcl, .int mdo, .int mnu, .ref m7, .ref m8, .ref m9, .ref m10])), (m1, .inl (cI, 24, .inl mvl)), (m2, .inl (cI, 96, .inl mof)), (m3, .inl (cI, 168, .inl mw)), (m4, .inl (cF, 288, .inr (.inr (.inl mf)))), (m5, .inl (cZ, 2, .inl mik)), (m6, .inl (cI, 200, .inl mtx)), (m7, .inl (cI, 56, .inl mwd)), (m8, .inl (cI, 3, .inl msz)), (m9, .inl (cI, 3, .inl mso)), (m10, .inl (cI, 24, .inl mpl))] := hD
    have hl : lv_has ls 3 [(2, .int q6), (1, .int q7), (0, .ref ma)] := hl
    refine lv_iload_n hx hb dX6_dead_52 rfl (lv_at hl 1 rfl) ?_
    have h1 := Option.some.inj hf
    subst h1
    rw [hQ]
    exact W.iret (v := q7) hx hb hr (fun t ht hW => qEnd hP hS ht) hS.2.2 dX6_dead_53
  · have hf := if_p c1 hf
    refine lv_bipush (v := (-4)) hx hb dX6_dead_7 (by decide) ?_
    have h1 := Option.some.inj hf
    subst h1
    rw [hQ]
    exact W.iret (v := (-4)) hx hb hr (fun t ht hW => qEnd hP hS ht) hS.2.2 dX6_dead_9
set_option maxRecDepth 100000 in
set_option maxHeartbeats 4000000 in
theorem c_X6_until (l : Launch) (D : va_G) (B : Nat) (adK adV : Nat → Nat) (cC cF cI cZ cM cS : ClassId) (ma : Nat) (mst : Int32) (mwy : Int32) (mmk : Int32) (mwt : Int32) (m1 : Nat) (m2 : Nat) (m3 : Nat) (m4 : Nat) (mun : Int32) (m5 : Nat) (m6 : Nat) (mln : Int32) (mfi : Int32) (mbe : Int32) (mrs : Int32) (mrw : Int32) (mcl : Int32) (mdo : Int32) (mnu : Int32) (m7 : Nat) (m8 : Nat) (m9 : Nat) (m10 : Nat) (mvl : Nat → Int32) (mof : Nat → Int32) (mw : Nat → Int32) (mf : Nat → UInt32) (mik : Nat → Int32) (mtx : Nat → Int32) (mwd : Nat → Int32) (msz : Nat → Int32) (mso : Nat → Int32) (mpl : Nat → Int32) (i : Int32) (k : Int32) (zz : Int32 × (Nat → Int32) × (Nat → UInt32)) (hf : f_X6_until mst mwy mof mw mf i k = some zz) : Ct l yX6_until wsX6_until { frames := 5, cells := 0, slots := 0, locals := 121 } D B adK adV (tysX cC cF cI cZ cM cS) [.ref ma, .int i, .int k] [(ma, .inr (6, [.int mst, .int mwy, .int mmk, .int mwt, .ref m1, .ref m2, .ref m3, .ref m4, .int mun, .ref m5, .ref m6, .int mln, .int mfi, .int mbe, .int mrs, .int mrw, .int mcl, .int mdo, .int mnu, .ref m7, .ref m8, .ref m9, .ref m10])), (m1, .inl (cI, 24, .inl mvl)), (m2, .inl (cI, 96, .inl mof)), (m3, .inl (cI, 168, .inl mw)), (m4, .inl (cF, 288, .inr (.inr (.inl mf)))), (m5, .inl (cZ, 2, .inl mik)), (m6, .inl (cI, 200, .inl mtx)), (m7, .inl (cI, 56, .inl mwd)), (m8, .inl (cI, 3, .inl msz)), (m9, .inl (cI, 3, .inl mso)), (m10, .inl (cI, 24, .inl mpl))] [(ma, .inr (6, [.int mst, .int mwy, .int mmk, .int mwt, .ref m1, .ref m2, .ref m3, .ref m4, .int mun, .ref m5, .ref m6, .int mln, .int mfi, .int mbe, .int mrs, .int mrw, .int mcl, .int mdo, .int mnu, .ref m7, .ref m8, .ref m9, .ref m10])), (m1, .inl (cI, 24, .inl mvl)), (m2, .inl (cI, 96, .inl mof)), (m3, .inl (cI, 168, .inl zz.2.1)), (m4, .inl (cF, 288, .inr (.inr (.inl zz.2.2)))), (m5, .inl (cZ, 2, .inl mik)), (m6, .inl (cI, 200, .inl mtx)), (m7, .inl (cI, 56, .inl mwd)), (m8, .inl (cI, 3, .inl msz)), (m9, .inl (cI, 3, .inl mso)), (m10, .inl (cI, 24, .inl mpl))] (some (.int zz.1)) := by
  refine Ct.ofW (cc := cX6_until) (maxL := 4) (ret := (some .int)) (by decide) rfl (Nat.le_of_ble_eq_true rfl) ?_
  intro p e s m args below meth c hx hb hr hml hts hown hlocks hnm hK hE A Q hQ hB H locs ls hP hD hS hl
  have hl : lv_has ls 4 [(0, .ref ma), (1, .int i), (2, .int k)] := hl
  have w0 : ∀ w ∈ u_ws RX6 TX6 23, w ∈ wsX6_until := by decide +kernel
  have w1 := hts (.fieldLink RX6 20 "MotionStatesModel" "w" "[I") (by decide +kernel)
  have L26 : ∀ (n : Nat) (x3_26 : Int32) (mw_26 : Nat → Int32) (mf_26 : Nat → UInt32), f_X6_until_L26 i k mwy mof n x3_26 mw_26 mf_26 = some zz → ∀ (H : Heap) (locs : List Loc) (ls : Array Slot), va_P D vwCl [(ma, .inr (6, [.int mst, .int mwy, .int mmk, .int mwt, .ref m1, .ref m2, .ref m3, .ref m4, .int mun, .ref m5, .ref m6, .int mln, .int mfi, .int mbe, .int mrs, .int mrw, .int mcl, .int mdo, .int mnu, .ref m7, .ref m8, .ref m9, .ref m10])), (m1, .inl (cI, 24, .inl mvl)), (m2, .inl (cI, 96, .inl mof)), (m3, .inl (cI, 168, .inl mw_26)), (m4, .inl (cF, 288, .inr (.inr (.inl mf_26)))), (m5, .inl (cZ, 2, .inl mik)), (m6, .inl (cI, 200, .inl mtx)), (m7, .inl (cI, 56, .inl mwd)), (m8, .inl (cI, 3, .inl msz)), (m9, .inl (cI, 3, .inl mso)), (m10, .inl (cI, 24, .inl mpl))] H → va_D A [(ma, .inr (6, [.int mst, .int mwy, .int mmk, .int mwt, .ref m1, .ref m2, .ref m3, .ref m4, .int mun, .ref m5, .ref m6, .int mln, .int mfi, .int mbe, .int mrs, .int mrw, .int mcl, .int mdo, .int mnu, .ref m7, .ref m8, .ref m9, .ref m10])), (m1, .inl (cI, 24, .inl mvl)), (m2, .inl (cI, 96, .inl mof)), (m3, .inl (cI, 168, .inl mw_26)), (m4, .inl (cF, 288, .inr (.inr (.inl mf_26)))), (m5, .inl (cZ, 2, .inl mik)), (m6, .inl (cI, 200, .inl mtx)), (m7, .inl (cI, 56, .inl mwd)), (m8, .inl (cI, 3, .inl msz)), (m9, .inl (cI, 3, .inl mso)), (m10, .inl (cI, 24, .inl mpl))] → va_S A s.heap H locs → lv_has ls 4 [(3, .int x3_26), (0, .ref ma), (1, .int i), (2, .int k)] → W p l e { frames := 5, cells := 0, slots := 0, locals := 121 } s m args below meth c H locs 0 0 Q (F0 m 26 ls []) := by
    intro n
    induction n with
    | zero => intro x3_26 mw_26 mf_26 hf; exact absurd hf (by simp [f_X6_until_L26])
    | succ n ih =>
      intro x3_26 mw_26 mf_26 hf H locs ls hP hD hS hl
      rw [f_X6_until_L26] at hf
      refine lv_aload_n hx hb dX6_until_26 rfl (lv_at hl 1 rfl) ?_
      refine va_get (D := D) (ci := 6) (v := .ref m3) (C := RX6) (T := TX6) (N := 23) hx hb hts w0 hown hK hP 0 rfl rfl 6 (by decide) w1 (fun _ h9 => h9) rfl dX6_until_27 ?_
      refine lv_bipush (v := 14) hx hb dX6_until_30 (by decide) ?_
      refine lv_iconst (v := 5) hx hb dX6_until_32 (by decide) ?_
      refine lv_iload_n hx hb dX6_until_33 rfl (lv_at hl 2 rfl) ?_
      refine lv_imul hx hb dX6_until_34 ?_
      refine lv_iadd hx hb dX6_until_35 ?_
      refine lv_iconst (v := 0) hx hb dX6_until_36 (by decide) ?_
      refine lv_iadd hx hb dX6_until_37 ?_
      obtain ⟨g10, hf⟩ := gd_inv hf
      refine va_iald hx hb hK hP 3 2 rfl rfl g10 dX6_until_38 ?_
      refine lv_iload_n hx hb dX6_until_39 rfl (lv_at hl 3 rfl) ?_
      refine lv_icmp_eq (tgt := 63) hx hb dX6_until_40 (by decide) (fun c11 => ?_) (fun c11 => ?_)
      · have hf := if_p c11 hf
        refine lv_iload_n hx hb dX6_until_63 rfl (lv_at hl 0 rfl) ?_
        have h1 := Option.some.inj hf
        subst h1
        rw [hQ]
        exact W.iret (v := x3_26) hx hb hr (fun t ht hW => qEnd hP hS ht) hS.2.2 dX6_until_64
      · have hf := if_n c11 hf
        refine lv_iload_n hx hb dX6_until_43 rfl (lv_at hl 0 rfl) ?_
        refine lv_sipush (v := 300) hx hb dX6_until_44 (by decide) ?_
        refine lv_icmp_ne (tgt := 52) hx hb dX6_until_47 (by decide) (fun c12 => ?_) (fun c12 => ?_)
        · have hf := if_n c12 hf
          refine lv_aload_n hx hb dX6_until_52 rfl (lv_at hl 1 rfl) ?_
          refine lv_iconst (v := 1) hx hb dX6_until_53 (by decide) ?_
          obtain ⟨⟨o13, o14⟩, hc15, hf⟩ := bd_inv hf
          refine xcV (As := [.int 1]) (rest := []) (ws' := [(ma, .inr (6, [.int mst, .int mwy, .int mmk, .int mwt, .ref m1, .ref m2, .ref m3, .ref m4, .int mun, .ref m5, .ref m6, .int mln, .int mfi, .int mbe, .int mrs, .int mrw, .int mcl, .int mdo, .int mnu, .ref m7, .ref m8, .ref m9, .ref m10])), (m1, .inl (cI, 24, .inl mvl)), (m2, .inl (cI, 96, .inl mof)), (m3, .inl (cI, 168, .inl o13)), (m4, .inl (cF, 288, .inr (.inr (.inl o14)))), (m5, .inl (cZ, 2, .inl mik)), (m6, .inl (cI, 200, .inl mtx)), (m7, .inl (cI, 56, .inl mwd)), (m8, .inl (cI, 3, .inl msz)), (m9, .inl (cI, 3, .inl mso)), (m10, .inl (cI, 24, .inl mpl))]) ⟨hx, hb, hml, hown, hts⟩ (c_X6_frame l D B adK adV cC cF cI cZ cM cS ma mst mwy mmk mwt m1 m2 m3 m4 mun m5 m6 mln mfi mbe mrs mrw mcl mdo mnu m7 m8 m9 m10 mvl mof mw_26 mf_26 mik mtx mwd msz mso mpl 1  (o13, o14) hc15) (cwV 1 hts gX6_until_X6_frame rfl rfl rfl (by decide +kernel) ⟨Nat.le_of_ble_eq_true rfl, Nat.le_of_ble_eq_true rfl⟩) (va_recv hK hP (ci := 6) (q0 := 0) rfl rfl) hK hP hD hS hB hE [0, 1, 2, 3, 4, 5, 6, 7, 8, 9, 10] rfl rfl rfl rfl rfl hl.1 rfl (Nat.le_of_ble_eq_true rfl) dX6_until_54 ⟨Nat.le_of_ble_eq_true rfl, Nat.le_of_ble_eq_true rfl⟩ (fun H locs hP hD hS => ?_)
          refine W.eq (g2 := F0 m 57 ls []) rfl ?_
          refine lv_iinc (v := x3_26 + 1) (lv' := [(3, .int (x3_26 + 1)), (0, .ref ma), (1, .int i), (2, .int k)]) hx hb dX6_until_57 hl (k := 0) rfl rfl (by decide) rfl (fun ls hl => ?_)
          refine lv_goto (tgt := 26) hx hb dX6_until_60 (by decide) ?_
          exact ih (x3_26 + 1) o13 o14 hf H locs ls hP hD hS (lv_sub hl [0, 1, 2, 3] rfl)
        · have hf := if_p c12 hf
          refine lv_iconst (v := (-1)) hx hb dX6_until_50 (by decide) ?_
          have h1 := Option.some.inj hf
          subst h1
          rw [hQ]
          exact W.iret (v := (-1)) hx hb hr (fun t ht hW => qEnd hP hS ht) hS.2.2 dX6_until_51
  unfold f_X6_until at hf
  refine lv_iload_n hx hb dX6_until_0 rfl (lv_at hl 1 rfl) ?_
  obtain ⟨r1, hc2, hf⟩ := bd_inv hf
  refine xcS (As := [.int i]) (rest := []) (ws' := [(ma, .inr (6, [.int mst, .int mwy, .int mmk, .int mwt, .ref m1, .ref m2, .ref m3, .ref m4, .int mun, .ref m5, .ref m6, .int mln, .int mfi, .int mbe, .int mrs, .int mrw, .int mcl, .int mdo, .int mnu, .ref m7, .ref m8, .ref m9, .ref m10])), (m1, .inl (cI, 24, .inl mvl)), (m2, .inl (cI, 96, .inl mof)), (m3, .inl (cI, 168, .inl mw)), (m4, .inl (cF, 288, .inr (.inr (.inl mf)))), (m5, .inl (cZ, 2, .inl mik)), (m6, .inl (cI, 200, .inl mtx)), (m7, .inl (cI, 56, .inl mwd)), (m8, .inl (cI, 3, .inl msz)), (m9, .inl (cI, 3, .inl mso)), (m10, .inl (cI, 24, .inl mpl))]) ⟨hx, hb, hml, hown, hts⟩ (c_X6_isLayer l D B adK adV cC cF cI cZ cM cS i  r1 hc2) (va_cwS 1 hts gX6_until_X6_isLayer rfl rfl rfl (by decide +kernel) ⟨Nat.le_of_ble_eq_true rfl, Nat.le_of_ble_eq_true rfl⟩) hK hP hD hS hB hE [] rfl rfl rfl rfl rfl hl.1 rfl (Nat.le_of_ble_eq_true rfl) dX6_until_1 ⟨Nat.le_of_ble_eq_true rfl, Nat.le_of_ble_eq_true rfl⟩ (fun H locs hP hD hS => ?_)
  refine W.eq (g2 := F0 m 4 ls [.int r1]) rfl ?_
  refine lv_if_eq (tgt := 15) hx hb dX6_until_4 (by decide) (fun c3 => ?_) (fun c3 => ?_)
  · have hf := if_p c3 hf
    refine lv_bipush (v := (-2)) hx hb dX6_until_15 (by decide) ?_
    have h1 := Option.some.inj hf
    subst h1
    rw [hQ]
    exact W.iret (v := (-2)) hx hb hr (fun t ht hW => qEnd hP hS ht) hS.2.2 dX6_until_17
  · have hf := if_n c3 hf
    refine lv_aload_n hx hb dX6_until_7 rfl (lv_at hl 0 rfl) ?_
    refine lv_iload_n hx hb dX6_until_8 rfl (lv_at hl 2 rfl) ?_
    obtain ⟨r4, hc5, hf⟩ := bd_inv hf
    refine xcV (As := [.int k]) (rest := []) (ws' := [(ma, .inr (6, [.int mst, .int mwy, .int mmk, .int mwt, .ref m1, .ref m2, .ref m3, .ref m4, .int mun, .ref m5, .ref m6, .int mln, .int mfi, .int mbe, .int mrs, .int mrw, .int mcl, .int mdo, .int mnu, .ref m7, .ref m8, .ref m9, .ref m10])), (m1, .inl (cI, 24, .inl mvl)), (m2, .inl (cI, 96, .inl mof)), (m3, .inl (cI, 168, .inl mw)), (m4, .inl (cF, 288, .inr (.inr (.inl mf)))), (m5, .inl (cZ, 2, .inl mik)), (m6, .inl (cI, 200, .inl mtx)), (m7, .inl (cI, 56, .inl mwd)), (m8, .inl (cI, 3, .inl msz)), (m9, .inl (cI, 3, .inl mso)), (m10, .inl (cI, 24, .inl mpl))]) ⟨hx, hb, hml, hown, hts⟩ (c_X6_isState l D B adK adV cC cF cI cZ cM cS ma mst mwy mmk mwt m1 m2 m3 m4 mun m5 m6 mln mfi mbe mrs mrw mcl mdo mnu m7 m8 m9 m10 mvl mof mw mf mik mtx mwd msz mso mpl k  r4 hc5) (cwV 1 hts gX6_until_X6_isState rfl rfl rfl (by decide +kernel) ⟨Nat.le_of_ble_eq_true rfl, Nat.le_of_ble_eq_true rfl⟩) (va_recv hK hP (ci := 6) (q0 := 0) rfl rfl) hK hP hD hS hB hE [0, 1, 2, 3, 4, 5, 6, 7, 8, 9, 10] rfl rfl rfl rfl rfl hl.1 rfl (Nat.le_of_ble_eq_true rfl) dX6_until_9 ⟨Nat.le_of_ble_eq_true rfl, Nat.le_of_ble_eq_true rfl⟩ (fun H locs hP hD hS => ?_)
    refine W.eq (g2 := F0 m 12 ls [.int r4]) rfl ?_
    refine lv_if_ne (tgt := 18) hx hb dX6_until_12 (by decide) (fun c6 => ?_) (fun c6 => ?_)
    · have hf := if_n c6 hf
      refine lv_aload_n hx hb dX6_until_18 rfl (lv_at hl 0 rfl) ?_
      refine lv_iconst (v := 0) hx hb dX6_until_19 (by decide) ?_
      refine lv_iconst (v := 1) hx hb dX6_until_20 (by decide) ?_
      obtain ⟨⟨o7, o8⟩, hc9, hf⟩ := bd_inv hf
      refine xcV (As := [.int 0, .int 1]) (rest := []) (ws' := [(ma, .inr (6, [.int mst, .int mwy, .int mmk, .int mwt, .ref m1, .ref m2, .ref m3, .ref m4, .int mun, .ref m5, .ref m6, .int mln, .int mfi, .int mbe, .int mrs, .int mrw, .int mcl, .int mdo, .int mnu, .ref m7, .ref m8, .ref m9, .ref m10])), (m1, .inl (cI, 24, .inl mvl)), (m2, .inl (cI, 96, .inl mof)), (m3, .inl (cI, 168, .inl o7)), (m4, .inl (cF, 288, .inr (.inr (.inl o8)))), (m5, .inl (cZ, 2, .inl mik)), (m6, .inl (cI, 200, .inl mtx)), (m7, .inl (cI, 56, .inl mwd)), (m8, .inl (cI, 3, .inl msz)), (m9, .inl (cI, 3, .inl mso)), (m10, .inl (cI, 24, .inl mpl))]) ⟨hx, hb, hml, hown, hts⟩ (c_X6_copy l D B adK adV cC cF cI cZ cM cS ma mst mwy mmk mwt m1 m2 m3 m4 mun m5 m6 mln mfi mbe mrs mrw mcl mdo mnu m7 m8 m9 m10 mvl mof mw mf mik mtx mwd msz mso mpl 0 1  (o7, o8) hc9) (cwV 2 hts gX6_until_X6_copy rfl rfl rfl (by decide +kernel) ⟨Nat.le_of_ble_eq_true rfl, Nat.le_of_ble_eq_true rfl⟩) (va_recv hK hP (ci := 6) (q0 := 0) rfl rfl) hK hP hD hS hB hE [0, 1, 2, 3, 4, 5, 6, 7, 8, 9, 10] rfl rfl rfl rfl rfl hl.1 rfl (Nat.le_of_ble_eq_true rfl) dX6_until_21 ⟨Nat.le_of_ble_eq_true rfl, Nat.le_of_ble_eq_true rfl⟩ (fun H locs hP hD hS => ?_)
      refine W.eq (g2 := F0 m 24 ls []) rfl ?_
      refine lv_iconst (v := 0) hx hb dX6_until_24 (by decide) ?_
      refine lv_istore_n (lv' := [(3, .int 0), (0, .ref ma), (1, .int i), (2, .int k)]) hx hb dX6_until_25 rfl hl (by decide) rfl (fun ls hl => ?_)
      exact L26 1000 0 o7 o8 hf H locs ls hP hD hS (lv_sub hl [0, 1, 2, 3] rfl)
    · have hf := if_p c6 hf
      refine lv_bipush (v := (-2)) hx hb dX6_until_15 (by decide) ?_
      have h1 := Option.some.inj hf
      subst h1
      rw [hQ]
      exact W.iret (v := (-2)) hx hb hr (fun t ht hW => qEnd hP hS ht) hS.2.2 dX6_until_17
set_option maxRecDepth 100000 in
set_option maxHeartbeats 4000000 in
theorem c_X6_pulled (l : Launch) (D : va_G) (B : Nat) (adK adV : Nat → Nat) (cC cF cI cZ cM cS : ClassId) (ma : Nat) (mst : Int32) (mwy : Int32) (mmk : Int32) (mwt : Int32) (m1 : Nat) (m2 : Nat) (m3 : Nat) (m4 : Nat) (mun : Int32) (m5 : Nat) (m6 : Nat) (mln : Int32) (mfi : Int32) (mbe : Int32) (mrs : Int32) (mrw : Int32) (mcl : Int32) (mdo : Int32) (mnu : Int32) (m7 : Nat) (m8 : Nat) (m9 : Nat) (m10 : Nat) (mvl : Nat → Int32) (mof : Nat → Int32) (mw : Nat → Int32) (mf : Nat → UInt32) (mik : Nat → Int32) (mtx : Nat → Int32) (mwd : Nat → Int32) (msz : Nat → Int32) (mso : Nat → Int32) (mpl : Nat → Int32) (i : Int32) (k : Int32) (zz : Int32 × (Nat → Int32) × (Nat → UInt32)) (hf : f_X6_pulled mst mwy mof mw mf i k = some zz) : Ct l yX6_pulled wsX6_pulled { frames := 5, cells := 0, slots := 0, locals := 121 } D B adK adV (tysX cC cF cI cZ cM cS) [.ref ma, .int i, .int k] [(ma, .inr (6, [.int mst, .int mwy, .int mmk, .int mwt, .ref m1, .ref m2, .ref m3, .ref m4, .int mun, .ref m5, .ref m6, .int mln, .int mfi, .int mbe, .int mrs, .int mrw, .int mcl, .int mdo, .int mnu, .ref m7, .ref m8, .ref m9, .ref m10])), (m1, .inl (cI, 24, .inl mvl)), (m2, .inl (cI, 96, .inl mof)), (m3, .inl (cI, 168, .inl mw)), (m4, .inl (cF, 288, .inr (.inr (.inl mf)))), (m5, .inl (cZ, 2, .inl mik)), (m6, .inl (cI, 200, .inl mtx)), (m7, .inl (cI, 56, .inl mwd)), (m8, .inl (cI, 3, .inl msz)), (m9, .inl (cI, 3, .inl mso)), (m10, .inl (cI, 24, .inl mpl))] [(ma, .inr (6, [.int mst, .int mwy, .int mmk, .int mwt, .ref m1, .ref m2, .ref m3, .ref m4, .int mun, .ref m5, .ref m6, .int mln, .int mfi, .int mbe, .int mrs, .int mrw, .int mcl, .int mdo, .int mnu, .ref m7, .ref m8, .ref m9, .ref m10])), (m1, .inl (cI, 24, .inl mvl)), (m2, .inl (cI, 96, .inl mof)), (m3, .inl (cI, 168, .inl zz.2.1)), (m4, .inl (cF, 288, .inr (.inr (.inl zz.2.2)))), (m5, .inl (cZ, 2, .inl mik)), (m6, .inl (cI, 200, .inl mtx)), (m7, .inl (cI, 56, .inl mwd)), (m8, .inl (cI, 3, .inl msz)), (m9, .inl (cI, 3, .inl mso)), (m10, .inl (cI, 24, .inl mpl))] (some (.int zz.1)) := by
  refine Ct.ofW (cc := cX6_pulled) (maxL := 3) (ret := (some .int)) (by decide) rfl (Nat.le_of_ble_eq_true rfl) ?_
  intro p e s m args below meth c hx hb hr hml hts hown hlocks hnm hK hE A Q hQ hB H locs ls hP hD hS hl
  have hl : lv_has ls 3 [(0, .ref ma), (1, .int i), (2, .int k)] := hl
  have w0 : ∀ w ∈ u_ws RX6 TX6 23, w ∈ wsX6_pulled := by decide +kernel
  have w1 := hts (.fieldLink RX6 144 "MotionStatesModel" "states" "I") (by decide +kernel)
  have w2 := hts (.fieldLink RX6 20 "MotionStatesModel" "w" "[I") (by decide +kernel)
  unfold f_X6_pulled at hf
  refine lv_iload_n hx hb dX6_pulled_0 rfl (lv_at hl 1 rfl) ?_
  obtain ⟨r1, hc2, hf⟩ := bd_inv hf
  refine xcS (As := [.int i]) (rest := []) (ws' := [(ma, .inr (6, [.int mst, .int mwy, .int mmk, .int mwt, .ref m1, .ref m2, .ref m3, .ref m4, .int mun, .ref m5, .ref m6, .int mln, .int mfi, .int mbe, .int mrs, .int mrw, .int mcl, .int mdo, .int mnu, .ref m7, .ref m8, .ref m9, .ref m10])), (m1, .inl (cI, 24, .inl mvl)), (m2, .inl (cI, 96, .inl mof)), (m3, .inl (cI, 168, .inl mw)), (m4, .inl (cF, 288, .inr (.inr (.inl mf)))), (m5, .inl (cZ, 2, .inl mik)), (m6, .inl (cI, 200, .inl mtx)), (m7, .inl (cI, 56, .inl mwd)), (m8, .inl (cI, 3, .inl msz)), (m9, .inl (cI, 3, .inl mso)), (m10, .inl (cI, 24, .inl mpl))]) ⟨hx, hb, hml, hown, hts⟩ (c_X6_isLayer l D B adK adV cC cF cI cZ cM cS i  r1 hc2) (va_cwS 1 hts gX6_pulled_X6_isLayer rfl rfl rfl (by decide +kernel) ⟨Nat.le_of_ble_eq_true rfl, Nat.le_of_ble_eq_true rfl⟩) hK hP hD hS hB hE [] rfl rfl rfl rfl rfl hl.1 rfl (Nat.le_of_ble_eq_true rfl) dX6_pulled_1 ⟨Nat.le_of_ble_eq_true rfl, Nat.le_of_ble_eq_true rfl⟩ (fun H locs hP hD hS => ?_)
  refine W.eq (g2 := F0 m 4 ls [.int r1]) rfl ?_
  refine lv_if_eq (tgt := 14) hx hb dX6_pulled_4 (by decide) (fun c3 => ?_) (fun c3 => ?_)
  · have hf := if_p c3 hf
    refine lv_bipush (v := (-2)) hx hb dX6_pulled_14 (by decide) ?_
    have h1 := Option.some.inj hf
    subst h1
    rw [hQ]
    exact W.iret (v := (-2)) hx hb hr (fun t ht hW => qEnd hP hS ht) hS.2.2 dX6_pulled_16
  · have hf := if_n c3 hf
    refine lv_iload_n hx hb dX6_pulled_7 rfl (lv_at hl 2 rfl) ?_
    obtain ⟨r4, hc5, hf⟩ := bd_inv hf
    refine xcS (As := [.int k]) (rest := []) (ws' := [(ma, .inr (6, [.int mst, .int mwy, .int mmk, .int mwt, .ref m1, .ref m2, .ref m3, .ref m4, .int mun, .ref m5, .ref m6, .int mln, .int mfi, .int mbe, .int mrs, .int mrw, .int mcl, .int mdo, .int mnu, .ref m7, .ref m8, .ref m9, .ref m10])), (m1, .inl (cI, 24, .inl mvl)), (m2, .inl (cI, 96, .inl mof)), (m3, .inl (cI, 168, .inl mw)), (m4, .inl (cF, 288, .inr (.inr (.inl mf)))), (m5, .inl (cZ, 2, .inl mik)), (m6, .inl (cI, 200, .inl mtx)), (m7, .inl (cI, 56, .inl mwd)), (m8, .inl (cI, 3, .inl msz)), (m9, .inl (cI, 3, .inl mso)), (m10, .inl (cI, 24, .inl mpl))]) ⟨hx, hb, hml, hown, hts⟩ (c_X6_isThird l D B adK adV cC cF cI cZ cM cS k  r4 hc5) (va_cwS 1 hts gX6_pulled_X6_isThird rfl rfl rfl (by decide +kernel) ⟨Nat.le_of_ble_eq_true rfl, Nat.le_of_ble_eq_true rfl⟩) hK hP hD hS hB hE [] rfl rfl rfl rfl rfl hl.1 rfl (Nat.le_of_ble_eq_true rfl) dX6_pulled_8 ⟨Nat.le_of_ble_eq_true rfl, Nat.le_of_ble_eq_true rfl⟩ (fun H locs hP hD hS => ?_)
    refine W.eq (g2 := F0 m 11 ls [.int r4]) rfl ?_
    refine lv_if_ne (tgt := 17) hx hb dX6_pulled_11 (by decide) (fun c6 => ?_) (fun c6 => ?_)
    · have hf := if_n c6 hf
      refine lv_aload_n hx hb dX6_pulled_17 rfl (lv_at hl 0 rfl) ?_
      refine va_get (D := D) (ci := 6) (v := .int mst) (C := RX6) (T := TX6) (N := 23) hx hb hts w0 hown hK hP 0 rfl rfl 0 (by decide) w1 (fun _ h9 => h9) rfl dX6_pulled_18 ?_
      refine lv_if_eq (tgt := 38) hx hb dX6_pulled_21 (by decide) (fun c7 => ?_) (fun c7 => ?_)
      · have hf := if_p c7 hf
        refine lv_bipush (v := (-4)) hx hb dX6_pulled_38 (by decide) ?_
        have h1 := Option.some.inj hf
        subst h1
        rw [hQ]
        exact W.iret (v := (-4)) hx hb hr (fun t ht hW => qEnd hP hS ht) hS.2.2 dX6_pulled_40
      · have hf := if_n c7 hf
        refine lv_aload_n hx hb dX6_pulled_24 rfl (lv_at hl 0 rfl) ?_
        refine va_get (D := D) (ci := 6) (v := .ref m3) (C := RX6) (T := TX6) (N := 23) hx hb hts w0 hown hK hP 0 rfl rfl 6 (by decide) w2 (fun _ h9 => h9) rfl dX6_pulled_25 ?_
        refine lv_bipush (v := 13) hx hb dX6_pulled_28 (by decide) ?_
        refine va_iald hx hb hK hP 3 2 rfl rfl (show iok 13 168 by decide) dX6_pulled_30 ?_
        refine W.eq (g2 := F0 m 31 ls (.int (mw 13) :: [])) rfl ?_
        refine lv_iload_n hx hb dX6_pulled_31 rfl (lv_at hl 2 rfl) ?_
        obtain ⟨r8, hc9, hf⟩ := bd_inv hf
        refine xcS (As := [.int (mw 13), .int k]) (rest := []) (ws' := [(ma, .inr (6, [.int mst, .int mwy, .int mmk, .int mwt, .ref m1, .ref m2, .ref m3, .ref m4, .int mun, .ref m5, .ref m6, .int mln, .int mfi, .int mbe, .int mrs, .int mrw, .int mcl, .int mdo, .int mnu, .ref m7, .ref m8, .ref m9, .ref m10])), (m1, .inl (cI, 24, .inl mvl)), (m2, .inl (cI, 96, .inl mof)), (m3, .inl (cI, 168, .inl mw)), (m4, .inl (cF, 288, .inr (.inr (.inl mf)))), (m5, .inl (cZ, 2, .inl mik)), (m6, .inl (cI, 200, .inl mtx)), (m7, .inl (cI, 56, .inl mwd)), (m8, .inl (cI, 3, .inl msz)), (m9, .inl (cI, 3, .inl mso)), (m10, .inl (cI, 24, .inl mpl))]) ⟨hx, hb, hml, hown, hts⟩ (c_X6_has l D B adK adV cC cF cI cZ cM cS (mw 13) k  r8 hc9) (va_cwS 2 hts gX6_pulled_X6_has rfl rfl rfl (by decide +kernel) ⟨Nat.le_of_ble_eq_true rfl, Nat.le_of_ble_eq_true rfl⟩) hK hP hD hS hB hE [] rfl rfl rfl rfl rfl hl.1 rfl (Nat.le_of_ble_eq_true rfl) dX6_pulled_32 ⟨Nat.le_of_ble_eq_true rfl, Nat.le_of_ble_eq_true rfl⟩ (fun H locs hP hD hS => ?_)
        refine W.eq (g2 := F0 m 35 ls [.int r8]) rfl ?_
        refine lv_if_eq (tgt := 41) hx hb dX6_pulled_35 (by decide) (fun c10 => ?_) (fun c10 => ?_)
        · have hf := if_p c10 hf
          refine lv_aload_n hx hb dX6_pulled_41 rfl (lv_at hl 0 rfl) ?_
          refine lv_iconst (v := 0) hx hb dX6_pulled_42 (by decide) ?_
          refine lv_iconst (v := 1) hx hb dX6_pulled_43 (by decide) ?_
          obtain ⟨⟨o11, o12⟩, hc13, hf⟩ := bd_inv hf
          refine xcV (As := [.int 0, .int 1]) (rest := []) (ws' := [(ma, .inr (6, [.int mst, .int mwy, .int mmk, .int mwt, .ref m1, .ref m2, .ref m3, .ref m4, .int mun, .ref m5, .ref m6, .int mln, .int mfi, .int mbe, .int mrs, .int mrw, .int mcl, .int mdo, .int mnu, .ref m7, .ref m8, .ref m9, .ref m10])), (m1, .inl (cI, 24, .inl mvl)), (m2, .inl (cI, 96, .inl mof)), (m3, .inl (cI, 168, .inl o11)), (m4, .inl (cF, 288, .inr (.inr (.inl o12)))), (m5, .inl (cZ, 2, .inl mik)), (m6, .inl (cI, 200, .inl mtx)), (m7, .inl (cI, 56, .inl mwd)), (m8, .inl (cI, 3, .inl msz)), (m9, .inl (cI, 3, .inl mso)), (m10, .inl (cI, 24, .inl mpl))]) ⟨hx, hb, hml, hown, hts⟩ (c_X6_copy l D B adK adV cC cF cI cZ cM cS ma mst mwy mmk mwt m1 m2 m3 m4 mun m5 m6 mln mfi mbe mrs mrw mcl mdo mnu m7 m8 m9 m10 mvl mof mw mf mik mtx mwd msz mso mpl 0 1  (o11, o12) hc13) (cwV 2 hts gX6_pulled_X6_copy rfl rfl rfl (by decide +kernel) ⟨Nat.le_of_ble_eq_true rfl, Nat.le_of_ble_eq_true rfl⟩) (va_recv hK hP (ci := 6) (q0 := 0) rfl rfl) hK hP hD hS hB hE [0, 1, 2, 3, 4, 5, 6, 7, 8, 9, 10] rfl rfl rfl rfl rfl hl.1 rfl (Nat.le_of_ble_eq_true rfl) dX6_pulled_44 ⟨Nat.le_of_ble_eq_true rfl, Nat.le_of_ble_eq_true rfl⟩ (fun H locs hP hD hS => ?_)
          refine W.eq (g2 := F0 m 47 ls []) rfl ?_
          refine lv_aload_n hx hb dX6_pulled_47 rfl (lv_at hl 0 rfl) ?_
          refine va_get (D := D) (ci := 6) (v := .ref m3) (C := RX6) (T := TX6) (N := 23) hx hb hts w0 hown hK hP 0 rfl rfl 6 (by decide) w2 (fun _ h9 => h9) rfl dX6_pulled_48 ?_
          refine lv_bipush (v := 27) hx hb dX6_pulled_51 (by decide) ?_
          refine lv_dup2_11 hx hb dX6_pulled_53 rfl rfl ?_
          refine va_iald hx hb hK hP 3 2 rfl rfl (show iok 27 168 by decide) dX6_pulled_54 ?_
          refine W.eq (g2 := F0 m 55 ls (.int (o11 27) :: .int 27 :: .ref m3 :: [])) rfl ?_
          refine lv_iconst (v := 1) hx hb dX6_pulled_55 (by decide) ?_
          refine lv_iload_n hx hb dX6_pulled_56 rfl (lv_at hl 2 rfl) ?_
          refine lv_ishl hx hb dX6_pulled_57 ?_
          refine lv_ior hx hb dX6_pulled_58 ?_
          refine va_iast hx hb hK hP hD hS 3 2 rfl rfl (show iok 27 168 by decide) dX6_pulled_59 (fun H locs hP hD hS => ?_)
          have hP : va_P D vwCl [(ma, .inr (6, [.int mst, .int mwy, .int mmk, .int mwt, .ref m1, .ref m2, .ref m3, .ref m4, .int mun, .ref m5, .ref m6, .int mln, .int mfi, .int mbe, .int mrs, .int mrw, .int mcl, .int mdo, .int mnu, .ref m7, .ref m8, .ref m9, .ref m10])), (m1, .inl (cI, 24, .inl mvl)), (m2, .inl (cI, 96, .inl mof)), (m3, .inl (cI, 168, .inl (upd o11 27 ((o11 27) ||| ((1 : Int32) <<< (k &&& 31)))))), (m4, .inl (cF, 288, .inr (.inr (.inl o12)))), (m5, .inl (cZ, 2, .inl mik)), (m6, .inl (cI, 200, .inl mtx)), (m7, .inl (cI, 56, .inl mwd)), (m8, .inl (cI, 3, .inl msz)), (m9, .inl (cI, 3, .inl mso)), (m10, .inl (cI, 24, .inl mpl))] H := hP
          have hD : va_D A [(ma, .inr (6, [.int mst, .int mwy, .int mmk, .int mwt, .ref m1, .ref m2, .ref m3, .ref m4, .int mun, .ref m5, .ref m6, .int mln, .int mfi, .int mbe, .int mrs, .int mrw, .int mcl, .int mdo, .int mnu, .ref m7, .ref m8, .ref m9, .ref m10])), (m1, .inl (cI, 24, .inl mvl)), (m2, .inl (cI, 96, .inl mof)), (m3, .inl (cI, 168, .inl (upd o11 27 ((o11 27) ||| ((1 : Int32) <<< (k &&& 31)))))), (m4, .inl (cF, 288, .inr (.inr (.inl o12)))), (m5, .inl (cZ, 2, .inl mik)), (m6, .inl (cI, 200, .inl mtx)), (m7, .inl (cI, 56, .inl mwd)), (m8, .inl (cI, 3, .inl msz)), (m9, .inl (cI, 3, .inl mso)), (m10, .inl (cI, 24, .inl mpl))] := hD
          refine lv_aload_n hx hb dX6_pulled_60 rfl (lv_at hl 0 rfl) ?_
          refine lv_iconst (v := 1) hx hb dX6_pulled_61 (by decide) ?_
          obtain ⟨⟨o14, o15⟩, hc16, hf⟩ := bd_inv hf
          refine xcV (As := [.int 1]) (rest := []) (ws' := [(ma, .inr (6, [.int mst, .int mwy, .int mmk, .int mwt, .ref m1, .ref m2, .ref m3, .ref m4, .int mun, .ref m5, .ref m6, .int mln, .int mfi, .int mbe, .int mrs, .int mrw, .int mcl, .int mdo, .int mnu, .ref m7, .ref m8, .ref m9, .ref m10])), (m1, .inl (cI, 24, .inl mvl)), (m2, .inl (cI, 96, .inl mof)), (m3, .inl (cI, 168, .inl o14)), (m4, .inl (cF, 288, .inr (.inr (.inl o15)))), (m5, .inl (cZ, 2, .inl mik)), (m6, .inl (cI, 200, .inl mtx)), (m7, .inl (cI, 56, .inl mwd)), (m8, .inl (cI, 3, .inl msz)), (m9, .inl (cI, 3, .inl mso)), (m10, .inl (cI, 24, .inl mpl))]) ⟨hx, hb, hml, hown, hts⟩ (c_X6_frame l D B adK adV cC cF cI cZ cM cS ma mst mwy mmk mwt m1 m2 m3 m4 mun m5 m6 mln mfi mbe mrs mrw mcl mdo mnu m7 m8 m9 m10 mvl mof (upd o11 27 ((o11 27) ||| ((1 : Int32) <<< (k &&& 31)))) o12 mik mtx mwd msz mso mpl 1  (o14, o15) hc16) (cwV 1 hts gX6_pulled_X6_frame rfl rfl rfl (by decide +kernel) ⟨Nat.le_of_ble_eq_true rfl, Nat.le_of_ble_eq_true rfl⟩) (va_recv hK hP (ci := 6) (q0 := 0) rfl rfl) hK hP hD hS hB hE [0, 1, 2, 3, 4, 5, 6, 7, 8, 9, 10] rfl rfl rfl rfl rfl hl.1 rfl (Nat.le_of_ble_eq_true rfl) dX6_pulled_62 ⟨Nat.le_of_ble_eq_true rfl, Nat.le_of_ble_eq_true rfl⟩ (fun H locs hP hD hS => ?_)
          refine W.eq (g2 := F0 m 65 ls []) rfl ?_
          refine lv_aload_n hx hb dX6_pulled_65 rfl (lv_at hl 0 rfl) ?_
          refine va_get (D := D) (ci := 6) (v := .ref m3) (C := RX6) (T := TX6) (N := 23) hx hb hts w0 hown hK hP 0 rfl rfl 6 (by decide) w2 (fun _ h9 => h9) rfl dX6_pulled_66 ?_
          refine lv_bipush (v := 14) hx hb dX6_pulled_69 (by decide) ?_
          refine lv_iconst (v := 5) hx hb dX6_pulled_71 (by decide) ?_
          refine lv_iload_n hx hb dX6_pulled_72 rfl (lv_at hl 1 rfl) ?_
          refine lv_imul hx hb dX6_pulled_73 ?_
          refine lv_iadd hx hb dX6_pulled_74 ?_
          refine lv_iconst (v := 0) hx hb dX6_pulled_75 (by decide) ?_
          refine lv_iadd hx hb dX6_pulled_76 ?_
          obtain ⟨g17, hf⟩ := gd_inv hf
          refine va_iald hx hb hK hP 3 2 rfl rfl g17 dX6_pulled_77 ?_
          have h1 := Option.some.inj hf
          subst h1
          rw [hQ]
          exact W.iret (v := (o14 ((((14 : Int32) + ((5 : Int32) * i)) + 0).toNatClampNeg))) hx hb hr (fun t ht hW => qEnd hP hS ht) hS.2.2 dX6_pulled_78
        · have hf := if_n c10 hf
          refine lv_bipush (v := (-4)) hx hb dX6_pulled_38 (by decide) ?_
          have h1 := Option.some.inj hf
          subst h1
          rw [hQ]
          exact W.iret (v := (-4)) hx hb hr (fun t ht hW => qEnd hP hS ht) hS.2.2 dX6_pulled_40
    · have hf := if_p c6 hf
      refine lv_bipush (v := (-2)) hx hb dX6_pulled_14 (by decide) ?_
      have h1 := Option.some.inj hf
      subst h1
      rw [hQ]
      exact W.iret (v := (-2)) hx hb hr (fun t ht hW => qEnd hP hS ht) hS.2.2 dX6_pulled_16
set_option maxRecDepth 100000 in
set_option maxHeartbeats 4000000 in
theorem c_X6_shelf (l : Launch) (D : va_G) (B : Nat) (adK adV : Nat → Nat) (cC cF cI cZ cM cS : ClassId) (ma : Nat) (mst : Int32) (mwy : Int32) (mmk : Int32) (mwt : Int32) (m1 : Nat) (m2 : Nat) (m3 : Nat) (m4 : Nat) (mun : Int32) (m5 : Nat) (m6 : Nat) (mln : Int32) (mfi : Int32) (mbe : Int32) (mrs : Int32) (mrw : Int32) (mcl : Int32) (mdo : Int32) (mnu : Int32) (m7 : Nat) (m8 : Nat) (m9 : Nat) (m10 : Nat) (mvl : Nat → Int32) (mof : Nat → Int32) (mw : Nat → Int32) (mf : Nat → UInt32) (mik : Nat → Int32) (mtx : Nat → Int32) (mwd : Nat → Int32) (msz : Nat → Int32) (mso : Nat → Int32) (mpl : Nat → Int32) (i : Int32) (so : Int32) (cnt : Int32) (zz : Int32 × (Nat → Int32) × (Nat → Int32) × (Nat → Int32)) (hf : f_X6_shelf msz mso mpl i so cnt = some zz) : Ct l yX6_shelf wsX6_shelf { frames := 2, cells := 0, slots := 0, locals := 45 } D B adK adV (tysX cC cF cI cZ cM cS) [.ref ma, .int i, .int so, .int cnt] [(ma, .inr (6, [.int mst, .int mwy, .int mmk, .int mwt, .ref m1, .ref m2, .ref m3, .ref m4, .int mun, .ref m5, .ref m6, .int mln, .int mfi, .int mbe, .int mrs, .int mrw, .int mcl, .int mdo, .int mnu, .ref m7, .ref m8, .ref m9, .ref m10])), (m1, .inl (cI, 24, .inl mvl)), (m2, .inl (cI, 96, .inl mof)), (m3, .inl (cI, 168, .inl mw)), (m4, .inl (cF, 288, .inr (.inr (.inl mf)))), (m5, .inl (cZ, 2, .inl mik)), (m6, .inl (cI, 200, .inl mtx)), (m7, .inl (cI, 56, .inl mwd)), (m8, .inl (cI, 3, .inl msz)), (m9, .inl (cI, 3, .inl mso)), (m10, .inl (cI, 24, .inl mpl))] [(ma, .inr (6, [.int mst, .int mwy, .int mmk, .int mwt, .ref m1, .ref m2, .ref m3, .ref m4, .int mun, .ref m5, .ref m6, .int mln, .int mfi, .int mbe, .int mrs, .int mrw, .int mcl, .int mdo, .int mnu, .ref m7, .ref m8, .ref m9, .ref m10])), (m1, .inl (cI, 24, .inl mvl)), (m2, .inl (cI, 96, .inl mof)), (m3, .inl (cI, 168, .inl mw)), (m4, .inl (cF, 288, .inr (.inr (.inl mf)))), (m5, .inl (cZ, 2, .inl mik)), (m6, .inl (cI, 200, .inl mtx)), (m7, .inl (cI, 56, .inl mwd)), (m8, .inl (cI, 3, .inl zz.2.1)), (m9, .inl (cI, 3, .inl zz.2.2.1)), (m10, .inl (cI, 24, .inl zz.2.2.2))] (some (.int zz.1)) := by
  refine Ct.ofW (cc := cX6_shelf) (maxL := 5) (ret := (some .int)) (by decide) rfl (Nat.le_of_ble_eq_true rfl) ?_
  intro p e s m args below meth c hx hb hr hml hts hown hlocks hnm hK hE A Q hQ hB H locs ls hP hD hS hl
  have hl : lv_has ls 5 [(0, .ref ma), (1, .int i), (2, .int so), (3, .int cnt)] := hl
  have w0 : ∀ w ∈ u_ws RX6 TX6 23, w ∈ wsX6_shelf := by decide +kernel
  have w1 := hts (.fieldLink RX6 37 "MotionStatesModel" "sizes" "[I") (by decide +kernel)
  have w2 := hts (.fieldLink RX6 40 "MotionStatesModel" "sorts" "[I") (by decide +kernel)
  have w3 := hts (.fieldLink RX6 43 "MotionStatesModel" "places" "[I") (by decide +kernel)
  have L50 : ∀ (n : Nat) (x4_50 : Int32) (mpl_50 : Nat → Int32) (oo : Int32 × (Nat → Int32)), f_X6_shelf_L50 i n x4_50 mpl_50 = some oo → ∀ (H : Heap) (locs : List Loc) (ls : Array Slot), va_P D vwCl [(ma, .inr (6, [.int mst, .int mwy, .int mmk, .int mwt, .ref m1, .ref m2, .ref m3, .ref m4, .int mun, .ref m5, .ref m6, .int mln, .int mfi, .int mbe, .int mrs, .int mrw, .int mcl, .int mdo, .int mnu, .ref m7, .ref m8, .ref m9, .ref m10])), (m1, .inl (cI, 24, .inl mvl)), (m2, .inl (cI, 96, .inl mof)), (m3, .inl (cI, 168, .inl mw)), (m4, .inl (cF, 288, .inr (.inr (.inl mf)))), (m5, .inl (cZ, 2, .inl mik)), (m6, .inl (cI, 200, .inl mtx)), (m7, .inl (cI, 56, .inl mwd)), (m8, .inl (cI, 3, .inl (upd msz i.toNatClampNeg cnt))), (m9, .inl (cI, 3, .inl (upd mso i.toNatClampNeg so))), (m10, .inl (cI, 24, .inl mpl_50))] H → va_D A [(ma, .inr (6, [.int mst, .int mwy, .int mmk, .int mwt, .ref m1, .ref m2, .ref m3, .ref m4, .int mun, .ref m5, .ref m6, .int mln, .int mfi, .int mbe, .int mrs, .int mrw, .int mcl, .int mdo, .int mnu, .ref m7, .ref m8, .ref m9, .ref m10])), (m1, .inl (cI, 24, .inl mvl)), (m2, .inl (cI, 96, .inl mof)), (m3, .inl (cI, 168, .inl mw)), (m4, .inl (cF, 288, .inr (.inr (.inl mf)))), (m5, .inl (cZ, 2, .inl mik)), (m6, .inl (cI, 200, .inl mtx)), (m7, .inl (cI, 56, .inl mwd)), (m8, .inl (cI, 3, .inl (upd msz i.toNatClampNeg cnt))), (m9, .inl (cI, 3, .inl (upd mso i.toNatClampNeg so))), (m10, .inl (cI, 24, .inl mpl_50))] → va_S A s.heap H locs → lv_has ls 5 [(4, .int x4_50), (0, .ref ma), (1, .int i), (2, .int so), (3, .int cnt)] → (∀ (H : Heap) (locs : List Loc) (ls : Array Slot), va_P D vwCl [(ma, .inr (6, [.int mst, .int mwy, .int mmk, .int mwt, .ref m1, .ref m2, .ref m3, .ref m4, .int mun, .ref m5, .ref m6, .int mln, .int mfi, .int mbe, .int mrs, .int mrw, .int mcl, .int mdo, .int mnu, .ref m7, .ref m8, .ref m9, .ref m10])), (m1, .inl (cI, 24, .inl mvl)), (m2, .inl (cI, 96, .inl mof)), (m3, .inl (cI, 168, .inl mw)), (m4, .inl (cF, 288, .inr (.inr (.inl mf)))), (m5, .inl (cZ, 2, .inl mik)), (m6, .inl (cI, 200, .inl mtx)), (m7, .inl (cI, 56, .inl mwd)), (m8, .inl (cI, 3, .inl (upd msz i.toNatClampNeg cnt))), (m9, .inl (cI, 3, .inl (upd mso i.toNatClampNeg so))), (m10, .inl (cI, 24, .inl oo.2))] H → va_D A [(ma, .inr (6, [.int mst, .int mwy, .int mmk, .int mwt, .ref m1, .ref m2, .ref m3, .ref m4, .int mun, .ref m5, .ref m6, .int mln, .int mfi, .int mbe, .int mrs, .int mrw, .int mcl, .int mdo, .int mnu, .ref m7, .ref m8, .ref m9, .ref m10])), (m1, .inl (cI, 24, .inl mvl)), (m2, .inl (cI, 96, .inl mof)), (m3, .inl (cI, 168, .inl mw)), (m4, .inl (cF, 288, .inr (.inr (.inl mf)))), (m5, .inl (cZ, 2, .inl mik)), (m6, .inl (cI, 200, .inl mtx)), (m7, .inl (cI, 56, .inl mwd)), (m8, .inl (cI, 3, .inl (upd msz i.toNatClampNeg cnt))), (m9, .inl (cI, 3, .inl (upd mso i.toNatClampNeg so))), (m10, .inl (cI, 24, .inl oo.2))] → va_S A s.heap H locs → lv_has ls 5 [(4, .int oo.1), (0, .ref ma), (1, .int i), (2, .int so), (3, .int cnt)] → W p l e { frames := 2, cells := 0, slots := 0, locals := 45 } s m args below meth c H locs 0 0 Q (F0 m 76 ls [])) → W p l e { frames := 2, cells := 0, slots := 0, locals := 45 } s m args below meth c H locs 0 0 Q (F0 m 50 ls []) := by
    intro n
    induction n with
    | zero => intro x4_50 mpl_50 oo hf; exact absurd hf (by simp [f_X6_shelf_L50])
    | succ n ih =>
      intro x4_50 mpl_50 oo hf H locs ls hP hD hS hl kk
      rw [f_X6_shelf_L50] at hf
      refine lv_iload hx hb dX6_shelf_50 (lv_at hl 0 rfl) ?_
      refine lv_bipush (v := 8) hx hb dX6_shelf_52 (by decide) ?_
      refine lv_icmp_ge (tgt := 76) hx hb dX6_shelf_54 (by decide) (fun c11 => ?_) (fun c11 => ?_)
      · have hf := if_p c11 hf
        have h1 := Option.some.inj hf
        subst h1
        exact kk H locs ls hP hD hS (lv_sub hl [0, 1, 2, 3, 4] rfl)
      · have hf := if_n c11 hf
        refine lv_aload_n hx hb dX6_shelf_57 rfl (lv_at hl 1 rfl) ?_
        refine va_get (D := D) (ci := 6) (v := .ref m10) (C := RX6) (T := TX6) (N := 23) hx hb hts w0 hown hK hP 0 rfl rfl 22 (by decide) w3 (fun _ h9 => h9) rfl dX6_shelf_58 ?_
        refine lv_bipush (v := 8) hx hb dX6_shelf_61 (by decide) ?_
        refine lv_iload_n hx hb dX6_shelf_63 rfl (lv_at hl 2 rfl) ?_
        refine lv_imul hx hb dX6_shelf_64 ?_
        refine lv_iload hx hb dX6_shelf_65 (lv_at hl 0 rfl) ?_
        refine lv_iadd hx hb dX6_shelf_67 ?_
        refine lv_iconst (v := (-1)) hx hb dX6_shelf_68 (by decide) ?_
        obtain ⟨g12, hf⟩ := gd_inv hf
        refine va_iast hx hb hK hP hD hS 10 2 rfl rfl g12 dX6_shelf_69 (fun H locs hP hD hS => ?_)
        have hP : va_P D vwCl [(ma, .inr (6, [.int mst, .int mwy, .int mmk, .int mwt, .ref m1, .ref m2, .ref m3, .ref m4, .int mun, .ref m5, .ref m6, .int mln, .int mfi, .int mbe, .int mrs, .int mrw, .int mcl, .int mdo, .int mnu, .ref m7, .ref m8, .ref m9, .ref m10])), (m1, .inl (cI, 24, .inl mvl)), (m2, .inl (cI, 96, .inl mof)), (m3, .inl (cI, 168, .inl mw)), (m4, .inl (cF, 288, .inr (.inr (.inl mf)))), (m5, .inl (cZ, 2, .inl mik)), (m6, .inl (cI, 200, .inl mtx)), (m7, .inl (cI, 56, .inl mwd)), (m8, .inl (cI, 3, .inl (upd msz i.toNatClampNeg cnt))), (m9, .inl (cI, 3, .inl (upd mso i.toNatClampNeg so))), (m10, .inl (cI, 24, .inl (upd mpl_50 ((((8 : Int32) * i) + x4_50).toNatClampNeg) (-1))))] H := hP
        have hD : va_D A [(ma, .inr (6, [.int mst, .int mwy, .int mmk, .int mwt, .ref m1, .ref m2, .ref m3, .ref m4, .int mun, .ref m5, .ref m6, .int mln, .int mfi, .int mbe, .int mrs, .int mrw, .int mcl, .int mdo, .int mnu, .ref m7, .ref m8, .ref m9, .ref m10])), (m1, .inl (cI, 24, .inl mvl)), (m2, .inl (cI, 96, .inl mof)), (m3, .inl (cI, 168, .inl mw)), (m4, .inl (cF, 288, .inr (.inr (.inl mf)))), (m5, .inl (cZ, 2, .inl mik)), (m6, .inl (cI, 200, .inl mtx)), (m7, .inl (cI, 56, .inl mwd)), (m8, .inl (cI, 3, .inl (upd msz i.toNatClampNeg cnt))), (m9, .inl (cI, 3, .inl (upd mso i.toNatClampNeg so))), (m10, .inl (cI, 24, .inl (upd mpl_50 ((((8 : Int32) * i) + x4_50).toNatClampNeg) (-1))))] := hD
        refine lv_iinc (v := x4_50 + 1) (lv' := [(4, .int (x4_50 + 1)), (0, .ref ma), (1, .int i), (2, .int so), (3, .int cnt)]) hx hb dX6_shelf_70 hl (k := 0) rfl rfl (by decide) rfl (fun ls hl => ?_)
        refine lv_goto (tgt := 50) hx hb dX6_shelf_73 (by decide) ?_
        exact ih (x4_50 + 1) (upd mpl_50 ((((8 : Int32) * i) + x4_50).toNatClampNeg) (-1)) oo hf H locs ls hP hD hS (lv_sub hl [0, 1, 2, 3, 4] rfl) kk
  unfold f_X6_shelf at hf
  refine lv_iload_n hx hb dX6_shelf_0 rfl (lv_at hl 1 rfl) ?_
  obtain ⟨r1, hc2, hf⟩ := bd_inv hf
  refine xcS (As := [.int i]) (rest := []) (ws' := [(ma, .inr (6, [.int mst, .int mwy, .int mmk, .int mwt, .ref m1, .ref m2, .ref m3, .ref m4, .int mun, .ref m5, .ref m6, .int mln, .int mfi, .int mbe, .int mrs, .int mrw, .int mcl, .int mdo, .int mnu, .ref m7, .ref m8, .ref m9, .ref m10])), (m1, .inl (cI, 24, .inl mvl)), (m2, .inl (cI, 96, .inl mof)), (m3, .inl (cI, 168, .inl mw)), (m4, .inl (cF, 288, .inr (.inr (.inl mf)))), (m5, .inl (cZ, 2, .inl mik)), (m6, .inl (cI, 200, .inl mtx)), (m7, .inl (cI, 56, .inl mwd)), (m8, .inl (cI, 3, .inl msz)), (m9, .inl (cI, 3, .inl mso)), (m10, .inl (cI, 24, .inl mpl))]) ⟨hx, hb, hml, hown, hts⟩ (c_X6_isThird l D B adK adV cC cF cI cZ cM cS i  r1 hc2) (va_cwS 1 hts gX6_shelf_X6_isThird rfl rfl rfl (by decide +kernel) ⟨Nat.le_of_ble_eq_true rfl, Nat.le_of_ble_eq_true rfl⟩) hK hP hD hS hB hE [] rfl rfl rfl rfl rfl hl.1 rfl (Nat.le_of_ble_eq_true rfl) dX6_shelf_1 ⟨Nat.le_of_ble_eq_true rfl, Nat.le_of_ble_eq_true rfl⟩ (fun H locs hP hD hS => ?_)
  refine W.eq (g2 := F0 m 4 ls [.int r1]) rfl ?_
  refine lv_if_ne (tgt := 10) hx hb dX6_shelf_4 (by decide) (fun c3 => ?_) (fun c3 => ?_)
  · have hf := if_n c3 hf
    refine lv_iload_n hx hb dX6_shelf_10 rfl (lv_at hl 2 rfl) ?_
    obtain ⟨r4, hc5, hf⟩ := bd_inv hf
    refine xcS (As := [.int so]) (rest := []) (ws' := [(ma, .inr (6, [.int mst, .int mwy, .int mmk, .int mwt, .ref m1, .ref m2, .ref m3, .ref m4, .int mun, .ref m5, .ref m6, .int mln, .int mfi, .int mbe, .int mrs, .int mrw, .int mcl, .int mdo, .int mnu, .ref m7, .ref m8, .ref m9, .ref m10])), (m1, .inl (cI, 24, .inl mvl)), (m2, .inl (cI, 96, .inl mof)), (m3, .inl (cI, 168, .inl mw)), (m4, .inl (cF, 288, .inr (.inr (.inl mf)))), (m5, .inl (cZ, 2, .inl mik)), (m6, .inl (cI, 200, .inl mtx)), (m7, .inl (cI, 56, .inl mwd)), (m8, .inl (cI, 3, .inl msz)), (m9, .inl (cI, 3, .inl mso)), (m10, .inl (cI, 24, .inl mpl))]) ⟨hx, hb, hml, hown, hts⟩ (c_X6_isThird l D B adK adV cC cF cI cZ cM cS so  r4 hc5) (va_cwS 1 hts gX6_shelf_X6_isThird rfl rfl rfl (by decide +kernel) ⟨Nat.le_of_ble_eq_true rfl, Nat.le_of_ble_eq_true rfl⟩) hK hP hD hS hB hE [] rfl rfl rfl rfl rfl hl.1 rfl (Nat.le_of_ble_eq_true rfl) dX6_shelf_11 ⟨Nat.le_of_ble_eq_true rfl, Nat.le_of_ble_eq_true rfl⟩ (fun H locs hP hD hS => ?_)
    refine W.eq (g2 := F0 m 14 ls [.int r4]) rfl ?_
    refine lv_if_eq (tgt := 23) hx hb dX6_shelf_14 (by decide) (fun c6 => ?_) (fun c6 => ?_)
    · have hf := if_p c6 hf
      refine lv_bipush (v := (-3)) hx hb dX6_shelf_23 (by decide) ?_
      have h1 := Option.some.inj hf
      subst h1
      rw [hQ]
      exact W.iret (v := (-3)) hx hb hr (fun t ht hW => qEnd hP hS ht) hS.2.2 dX6_shelf_25
    · have hf := if_n c6 hf
      refine lv_iload_n hx hb dX6_shelf_17 rfl (lv_at hl 3 rfl) ?_
      refine lv_bipush (v := 8) hx hb dX6_shelf_18 (by decide) ?_
      refine lv_icmp_le (tgt := 26) hx hb dX6_shelf_20 (by decide) (fun c7 => ?_) (fun c7 => ?_)
      · have hf := if_p c7 hf
        refine lv_iload_n hx hb dX6_shelf_26 rfl (lv_at hl 3 rfl) ?_
        refine lv_if_ge (tgt := 33) hx hb dX6_shelf_27 (by decide) (fun c8 => ?_) (fun c8 => ?_)
        · have hf := if_p c8 hf
          refine lv_aload_n hx hb dX6_shelf_33 rfl (lv_at hl 0 rfl) ?_
          refine va_get (D := D) (ci := 6) (v := .ref m8) (C := RX6) (T := TX6) (N := 23) hx hb hts w0 hown hK hP 0 rfl rfl 20 (by decide) w1 (fun _ h9 => h9) rfl dX6_shelf_34 ?_
          refine lv_iload_n hx hb dX6_shelf_37 rfl (lv_at hl 1 rfl) ?_
          refine lv_iload_n hx hb dX6_shelf_38 rfl (lv_at hl 3 rfl) ?_
          obtain ⟨g9, hf⟩ := gd_inv hf
          refine va_iast hx hb hK hP hD hS 8 2 rfl rfl g9 dX6_shelf_39 (fun H locs hP hD hS => ?_)
          have hP : va_P D vwCl [(ma, .inr (6, [.int mst, .int mwy, .int mmk, .int mwt, .ref m1, .ref m2, .ref m3, .ref m4, .int mun, .ref m5, .ref m6, .int mln, .int mfi, .int mbe, .int mrs, .int mrw, .int mcl, .int mdo, .int mnu, .ref m7, .ref m8, .ref m9, .ref m10])), (m1, .inl (cI, 24, .inl mvl)), (m2, .inl (cI, 96, .inl mof)), (m3, .inl (cI, 168, .inl mw)), (m4, .inl (cF, 288, .inr (.inr (.inl mf)))), (m5, .inl (cZ, 2, .inl mik)), (m6, .inl (cI, 200, .inl mtx)), (m7, .inl (cI, 56, .inl mwd)), (m8, .inl (cI, 3, .inl (upd msz i.toNatClampNeg cnt))), (m9, .inl (cI, 3, .inl mso)), (m10, .inl (cI, 24, .inl mpl))] H := hP
          have hD : va_D A [(ma, .inr (6, [.int mst, .int mwy, .int mmk, .int mwt, .ref m1, .ref m2, .ref m3, .ref m4, .int mun, .ref m5, .ref m6, .int mln, .int mfi, .int mbe, .int mrs, .int mrw, .int mcl, .int mdo, .int mnu, .ref m7, .ref m8, .ref m9, .ref m10])), (m1, .inl (cI, 24, .inl mvl)), (m2, .inl (cI, 96, .inl mof)), (m3, .inl (cI, 168, .inl mw)), (m4, .inl (cF, 288, .inr (.inr (.inl mf)))), (m5, .inl (cZ, 2, .inl mik)), (m6, .inl (cI, 200, .inl mtx)), (m7, .inl (cI, 56, .inl mwd)), (m8, .inl (cI, 3, .inl (upd msz i.toNatClampNeg cnt))), (m9, .inl (cI, 3, .inl mso)), (m10, .inl (cI, 24, .inl mpl))] := hD
          refine lv_aload_n hx hb dX6_shelf_40 rfl (lv_at hl 0 rfl) ?_
          refine va_get (D := D) (ci := 6) (v := .ref m9) (C := RX6) (T := TX6) (N := 23) hx hb hts w0 hown hK hP 0 rfl rfl 21 (by decide) w2 (fun _ h9 => h9) rfl dX6_shelf_41 ?_
          refine lv_iload_n hx hb dX6_shelf_44 rfl (lv_at hl 1 rfl) ?_
          refine lv_iload_n hx hb dX6_shelf_45 rfl (lv_at hl 2 rfl) ?_
          obtain ⟨g10, hf⟩ := gd_inv hf
          refine va_iast hx hb hK hP hD hS 9 2 rfl rfl g10 dX6_shelf_46 (fun H locs hP hD hS => ?_)
          have hP : va_P D vwCl [(ma, .inr (6, [.int mst, .int mwy, .int mmk, .int mwt, .ref m1, .ref m2, .ref m3, .ref m4, .int mun, .ref m5, .ref m6, .int mln, .int mfi, .int mbe, .int mrs, .int mrw, .int mcl, .int mdo, .int mnu, .ref m7, .ref m8, .ref m9, .ref m10])), (m1, .inl (cI, 24, .inl mvl)), (m2, .inl (cI, 96, .inl mof)), (m3, .inl (cI, 168, .inl mw)), (m4, .inl (cF, 288, .inr (.inr (.inl mf)))), (m5, .inl (cZ, 2, .inl mik)), (m6, .inl (cI, 200, .inl mtx)), (m7, .inl (cI, 56, .inl mwd)), (m8, .inl (cI, 3, .inl (upd msz i.toNatClampNeg cnt))), (m9, .inl (cI, 3, .inl (upd mso i.toNatClampNeg so))), (m10, .inl (cI, 24, .inl mpl))] H := hP
          have hD : va_D A [(ma, .inr (6, [.int mst, .int mwy, .int mmk, .int mwt, .ref m1, .ref m2, .ref m3, .ref m4, .int mun, .ref m5, .ref m6, .int mln, .int mfi, .int mbe, .int mrs, .int mrw, .int mcl, .int mdo, .int mnu, .ref m7, .ref m8, .ref m9, .ref m10])), (m1, .inl (cI, 24, .inl mvl)), (m2, .inl (cI, 96, .inl mof)), (m3, .inl (cI, 168, .inl mw)), (m4, .inl (cF, 288, .inr (.inr (.inl mf)))), (m5, .inl (cZ, 2, .inl mik)), (m6, .inl (cI, 200, .inl mtx)), (m7, .inl (cI, 56, .inl mwd)), (m8, .inl (cI, 3, .inl (upd msz i.toNatClampNeg cnt))), (m9, .inl (cI, 3, .inl (upd mso i.toNatClampNeg so))), (m10, .inl (cI, 24, .inl mpl))] := hD
          refine lv_iconst (v := 0) hx hb dX6_shelf_47 (by decide) ?_
          refine lv_istore (lv' := [(4, .int 0), (0, .ref ma), (1, .int i), (2, .int so), (3, .int cnt)]) hx hb dX6_shelf_48 hl (by decide) rfl (fun ls hl => ?_)
          obtain ⟨⟨q13, q14⟩, hq15, hf⟩ := bd_inv hf
          refine L50 1000 0 mpl (q13, q14) hq15 H locs ls hP hD hS (lv_sub hl [0, 1, 2, 3, 4] rfl) (fun H locs ls hP hD hS hl => ?_)
          have hP : va_P D vwCl [(ma, .inr (6, [.int mst, .int mwy, .int mmk, .int mwt, .ref m1, .ref m2, .ref m3, .ref m4, .int mun, .ref m5, .ref m6, .int mln, .int mfi, .int mbe, .int mrs, .int mrw, .int mcl, .int mdo, .int mnu, .ref m7, .ref m8, .ref m9, .ref m10])), (m1, .inl (cI, 24, .inl mvl)), (m2, .inl (cI, 96, .inl mof)), (m3, .inl (cI, 168, .inl mw)), (m4, .inl (cF, 288, .inr (.inr (.inl mf)))), (m5, .inl (cZ, 2, .inl mik)), (m6, .inl (cI, 200, .inl mtx)), (m7, .inl (cI, 56, .inl mwd)), (m8, .inl (cI, 3, .inl (upd msz i.toNatClampNeg cnt))), (m9, .inl (cI, 3, .inl (upd mso i.toNatClampNeg so))), (m10, .inl (cI, 24, .inl q14))] H := hP
          have hD : va_D A [(ma, .inr (6, [.int mst, .int mwy, .int mmk, .int mwt, .ref m1, .ref m2, .ref m3, .ref m4, .int mun, .ref m5, .ref m6, .int mln, .int mfi, .int mbe, .int mrs, .int mrw, .int mcl, .int mdo, .int mnu, .ref m7, .ref m8, .ref m9, .ref m10])), (m1, .inl (cI, 24, .inl mvl)), (m2, .inl (cI, 96, .inl mof)), (m3, .inl (cI, 168, .inl mw)), (m4, .inl (cF, 288, .inr (.inr (.inl mf)))), (m5, .inl (cZ, 2, .inl mik)), (m6, .inl (cI, 200, .inl mtx)), (m7, .inl (cI, 56, .inl mwd)), (m8, .inl (cI, 3, .inl (upd msz i.toNatClampNeg cnt))), (m9, .inl (cI, 3, .inl (upd mso i.toNatClampNeg so))), (m10, .inl (cI, 24, .inl q14))] := hD
          have hl : lv_has ls 5 [(4, .int q13), (0, .ref ma), (1, .int i), (2, .int so), (3, .int cnt)] := hl
          refine lv_iload_n hx hb dX6_shelf_76 rfl (lv_at hl 4 rfl) ?_
          have h1 := Option.some.inj hf
          subst h1
          rw [hQ]
          exact W.iret (v := cnt) hx hb hr (fun t ht hW => qEnd hP hS ht) hS.2.2 dX6_shelf_77
        · have hf := if_n c8 hf
          refine lv_bipush (v := (-12)) hx hb dX6_shelf_30 (by decide) ?_
          have h1 := Option.some.inj hf
          subst h1
          rw [hQ]
          exact W.iret (v := (-12)) hx hb hr (fun t ht hW => qEnd hP hS ht) hS.2.2 dX6_shelf_32
      · have hf := if_n c7 hf
        refine lv_bipush (v := (-3)) hx hb dX6_shelf_23 (by decide) ?_
        have h1 := Option.some.inj hf
        subst h1
        rw [hQ]
        exact W.iret (v := (-3)) hx hb hr (fun t ht hW => qEnd hP hS ht) hS.2.2 dX6_shelf_25
  · have hf := if_p c3 hf
    refine lv_bipush (v := (-2)) hx hb dX6_shelf_7 (by decide) ?_
    have h1 := Option.some.inj hf
    subst h1
    rw [hQ]
    exact W.iret (v := (-2)) hx hb hr (fun t ht hW => qEnd hP hS ht) hS.2.2 dX6_shelf_9
set_option maxRecDepth 100000 in
set_option maxHeartbeats 4000000 in
theorem c_X6_against (l : Launch) (D : va_G) (B : Nat) (adK adV : Nat → Nat) (cC cF cI cZ cM cS : ClassId) (ma : Nat) (mst : Int32) (mwy : Int32) (mmk : Int32) (mwt : Int32) (m1 : Nat) (m2 : Nat) (m3 : Nat) (m4 : Nat) (mun : Int32) (m5 : Nat) (m6 : Nat) (mln : Int32) (mfi : Int32) (mbe : Int32) (mrs : Int32) (mrw : Int32) (mcl : Int32) (mdo : Int32) (mnu : Int32) (m7 : Nat) (m8 : Nat) (m9 : Nat) (m10 : Nat) (mvl : Nat → Int32) (mof : Nat → Int32) (mw : Nat → Int32) (mf : Nat → UInt32) (mik : Nat → Int32) (mtx : Nat → Int32) (mwd : Nat → Int32) (msz : Nat → Int32) (mso : Nat → Int32) (mpl : Nat → Int32) (i : Int32) (k : Int32) (zz : Int32) (hf : f_X6_against msz i k = some zz) : Ct l yX6_against wsX6_against { frames := 1, cells := 0, slots := 0, locals := 25 } D B adK adV (tysX cC cF cI cZ cM cS) [.ref ma, .int i, .int k] [(ma, .inr (6, [.int mst, .int mwy, .int mmk, .int mwt, .ref m1, .ref m2, .ref m3, .ref m4, .int mun, .ref m5, .ref m6, .int mln, .int mfi, .int mbe, .int mrs, .int mrw, .int mcl, .int mdo, .int mnu, .ref m7, .ref m8, .ref m9, .ref m10])), (m1, .inl (cI, 24, .inl mvl)), (m2, .inl (cI, 96, .inl mof)), (m3, .inl (cI, 168, .inl mw)), (m4, .inl (cF, 288, .inr (.inr (.inl mf)))), (m5, .inl (cZ, 2, .inl mik)), (m6, .inl (cI, 200, .inl mtx)), (m7, .inl (cI, 56, .inl mwd)), (m8, .inl (cI, 3, .inl msz)), (m9, .inl (cI, 3, .inl mso)), (m10, .inl (cI, 24, .inl mpl))] [(ma, .inr (6, [.int mst, .int mwy, .int mmk, .int mwt, .ref m1, .ref m2, .ref m3, .ref m4, .int mun, .ref m5, .ref m6, .int mln, .int mfi, .int mbe, .int mrs, .int mrw, .int mcl, .int mdo, .int mnu, .ref m7, .ref m8, .ref m9, .ref m10])), (m1, .inl (cI, 24, .inl mvl)), (m2, .inl (cI, 96, .inl mof)), (m3, .inl (cI, 168, .inl mw)), (m4, .inl (cF, 288, .inr (.inr (.inl mf)))), (m5, .inl (cZ, 2, .inl mik)), (m6, .inl (cI, 200, .inl mtx)), (m7, .inl (cI, 56, .inl mwd)), (m8, .inl (cI, 3, .inl msz)), (m9, .inl (cI, 3, .inl mso)), (m10, .inl (cI, 24, .inl mpl))] (some (.int zz)) := by
  refine Ct.ofW (cc := cX6_against) (maxL := 3) (ret := (some .int)) (by decide) rfl (Nat.le_of_ble_eq_true rfl) ?_
  intro p e s m args below meth c hx hb hr hml hts hown hlocks hnm hK hE A Q hQ hB H locs ls hP hD hS hl
  have hl : lv_has ls 3 [(0, .ref ma), (1, .int i), (2, .int k)] := hl
  have w0 : ∀ w ∈ u_ws RX6 TX6 23, w ∈ wsX6_against := by decide +kernel
  have w1 := hts (.fieldLink RX6 37 "MotionStatesModel" "sizes" "[I") (by decide +kernel)
  unfold f_X6_against at hf
  refine lv_aload_n hx hb dX6_against_0 rfl (lv_at hl 0 rfl) ?_
  refine va_get (D := D) (ci := 6) (v := .ref m8) (C := RX6) (T := TX6) (N := 23) hx hb hts w0 hown hK hP 0 rfl rfl 20 (by decide) w1 (fun _ h9 => h9) rfl dX6_against_1 ?_
  refine lv_iload_n hx hb dX6_against_4 rfl (lv_at hl 1 rfl) ?_
  obtain ⟨g1, hf⟩ := gd_inv hf
  refine va_iald hx hb hK hP 8 2 rfl rfl g1 dX6_against_5 ?_
  refine lv_if_ge (tgt := 14) hx hb dX6_against_6 (by decide) (fun c2 => ?_) (fun c2 => ?_)
  · have hf := if_p c2 hf
    refine lv_iload_n hx hb dX6_against_14 rfl (lv_at hl 2 rfl) ?_
    refine lv_i2l hx hb dX6_against_15 rfl ?_
    refine lv_lconst (v := 0) hx hb dX6_against_16 (by decide) ?_
    refine lv_aload_n hx hb dX6_against_17 rfl (lv_at hl 0 rfl) ?_
    refine va_get (D := D) (ci := 6) (v := .ref m8) (C := RX6) (T := TX6) (N := 23) hx hb hts w0 hown hK hP 0 rfl rfl 20 (by decide) w1 (fun _ h9 => h9) rfl dX6_against_18 ?_
    refine lv_iload_n hx hb dX6_against_21 rfl (lv_at hl 1 rfl) ?_
    obtain ⟨g3, hf⟩ := gd_inv hf
    refine va_iald hx hb hK hP 8 2 rfl rfl g3 dX6_against_22 ?_
    refine lv_iconst (v := 1) hx hb dX6_against_23 (by decide) ?_
    refine lv_isub hx hb dX6_against_24 ?_
    refine lv_i2l hx hb dX6_against_25 rfl ?_
    obtain ⟨r4, hc5, hf⟩ := bd_inv hf
    refine xcS (As := [.long (k.toInt64), .long 0, .long (((msz i.toNatClampNeg) - 1).toInt64)]) (rest := []) (ws' := [(ma, .inr (6, [.int mst, .int mwy, .int mmk, .int mwt, .ref m1, .ref m2, .ref m3, .ref m4, .int mun, .ref m5, .ref m6, .int mln, .int mfi, .int mbe, .int mrs, .int mrw, .int mcl, .int mdo, .int mnu, .ref m7, .ref m8, .ref m9, .ref m10])), (m1, .inl (cI, 24, .inl mvl)), (m2, .inl (cI, 96, .inl mof)), (m3, .inl (cI, 168, .inl mw)), (m4, .inl (cF, 288, .inr (.inr (.inl mf)))), (m5, .inl (cZ, 2, .inl mik)), (m6, .inl (cI, 200, .inl mtx)), (m7, .inl (cI, 56, .inl mwd)), (m8, .inl (cI, 3, .inl msz)), (m9, .inl (cI, 3, .inl mso)), (m10, .inl (cI, 24, .inl mpl))]) ⟨hx, hb, hml, hown, hts⟩ (c_X6_in l D B adK adV cC cF cI cZ cM cS (k.toInt64) 0 (((msz i.toNatClampNeg) - 1).toInt64)  r4 hc5) (va_cwS 3 hts gX6_against_X6_in rfl rfl rfl (by decide +kernel) ⟨Nat.le_of_ble_eq_true rfl, Nat.le_of_ble_eq_true rfl⟩) hK hP hD hS hB hE [] rfl rfl rfl rfl rfl hl.1 rfl (Nat.le_of_ble_eq_true rfl) dX6_against_26 ⟨Nat.le_of_ble_eq_true rfl, Nat.le_of_ble_eq_true rfl⟩ (fun H locs hP hD hS => ?_)
    refine W.eq (g2 := F0 m 29 ls [.int r4]) rfl ?_
    refine lv_if_eq (tgt := 36) hx hb dX6_against_29 (by decide) (fun c6 => ?_) (fun c6 => ?_)
    · have hf := if_p c6 hf
      refine lv_bipush (v := (-13)) hx hb dX6_against_36 (by decide) ?_
      have h1 := Option.some.inj hf
      subst h1
      rw [hQ]
      exact W.iret (v := (-13)) hx hb hr (fun t ht hW => qEnd hP hS ht) hS.2.2 dX6_against_38
    · have hf := if_n c6 hf
      refine lv_iconst (v := 0) hx hb dX6_against_32 (by decide) ?_
      refine lv_goto (tgt := 38) hx hb dX6_against_33 (by decide) ?_
      have h1 := Option.some.inj hf
      subst h1
      rw [hQ]
      exact W.iret (v := 0) hx hb hr (fun t ht hW => qEnd hP hS ht) hS.2.2 dX6_against_38
  · have hf := if_n c2 hf
    refine lv_bipush (v := (-11)) hx hb dX6_against_9 (by decide) ?_
    refine lv_goto (tgt := 38) hx hb dX6_against_11 (by decide) ?_
    have h1 := Option.some.inj hf
    subst h1
    rw [hQ]
    exact W.iret (v := (-11)) hx hb hr (fun t ht hW => qEnd hP hS ht) hS.2.2 dX6_against_38
set_option maxRecDepth 100000 in
set_option maxHeartbeats 4000000 in
theorem c_X6_isOther (l : Launch) (D : va_G) (B : Nat) (adK adV : Nat → Nat) (cC cF cI cZ cM cS : ClassId) (ma : Nat) (mst : Int32) (mwy : Int32) (mmk : Int32) (mwt : Int32) (m1 : Nat) (m2 : Nat) (m3 : Nat) (m4 : Nat) (mun : Int32) (m5 : Nat) (m6 : Nat) (mln : Int32) (mfi : Int32) (mbe : Int32) (mrs : Int32) (mrw : Int32) (mcl : Int32) (mdo : Int32) (mnu : Int32) (m7 : Nat) (m8 : Nat) (m9 : Nat) (m10 : Nat) (mvl : Nat → Int32) (mof : Nat → Int32) (mw : Nat → Int32) (mf : Nat → UInt32) (mik : Nat → Int32) (mtx : Nat → Int32) (mwd : Nat → Int32) (msz : Nat → Int32) (mso : Nat → Int32) (mpl : Nat → Int32) (i : Int32) (so : Int32) (zz : Int32) (hf : f_X6_isOther mso i so = some zz) : Ct l yX6_isOther wsX6_isOther { frames := 0, cells := 0, slots := 0, locals := 0 } D B adK adV (tysX cC cF cI cZ cM cS) [.ref ma, .int i, .int so] [(ma, .inr (6, [.int mst, .int mwy, .int mmk, .int mwt, .ref m1, .ref m2, .ref m3, .ref m4, .int mun, .ref m5, .ref m6, .int mln, .int mfi, .int mbe, .int mrs, .int mrw, .int mcl, .int mdo, .int mnu, .ref m7, .ref m8, .ref m9, .ref m10])), (m1, .inl (cI, 24, .inl mvl)), (m2, .inl (cI, 96, .inl mof)), (m3, .inl (cI, 168, .inl mw)), (m4, .inl (cF, 288, .inr (.inr (.inl mf)))), (m5, .inl (cZ, 2, .inl mik)), (m6, .inl (cI, 200, .inl mtx)), (m7, .inl (cI, 56, .inl mwd)), (m8, .inl (cI, 3, .inl msz)), (m9, .inl (cI, 3, .inl mso)), (m10, .inl (cI, 24, .inl mpl))] [(ma, .inr (6, [.int mst, .int mwy, .int mmk, .int mwt, .ref m1, .ref m2, .ref m3, .ref m4, .int mun, .ref m5, .ref m6, .int mln, .int mfi, .int mbe, .int mrs, .int mrw, .int mcl, .int mdo, .int mnu, .ref m7, .ref m8, .ref m9, .ref m10])), (m1, .inl (cI, 24, .inl mvl)), (m2, .inl (cI, 96, .inl mof)), (m3, .inl (cI, 168, .inl mw)), (m4, .inl (cF, 288, .inr (.inr (.inl mf)))), (m5, .inl (cZ, 2, .inl mik)), (m6, .inl (cI, 200, .inl mtx)), (m7, .inl (cI, 56, .inl mwd)), (m8, .inl (cI, 3, .inl msz)), (m9, .inl (cI, 3, .inl mso)), (m10, .inl (cI, 24, .inl mpl))] (some (.int zz)) := by
  refine Ct.ofW (cc := cX6_isOther) (maxL := 3) (ret := (some .boolean)) (by decide) rfl (Nat.le_of_ble_eq_true rfl) ?_
  intro p e s m args below meth c hx hb hr hml hts hown hlocks hnm hK hE A Q hQ hB H locs ls hP hD hS hl
  have hl : lv_has ls 3 [(0, .ref ma), (1, .int i), (2, .int so)] := hl
  have w0 : ∀ w ∈ u_ws RX6 TX6 23, w ∈ wsX6_isOther := by decide +kernel
  have w1 := hts (.fieldLink RX6 40 "MotionStatesModel" "sorts" "[I") (by decide +kernel)
  unfold f_X6_isOther at hf
  refine lv_aload_n hx hb dX6_isOther_0 rfl (lv_at hl 0 rfl) ?_
  refine va_get (D := D) (ci := 6) (v := .ref m9) (C := RX6) (T := TX6) (N := 23) hx hb hts w0 hown hK hP 0 rfl rfl 21 (by decide) w1 (fun _ h9 => h9) rfl dX6_isOther_1 ?_
  refine lv_iload_n hx hb dX6_isOther_4 rfl (lv_at hl 1 rfl) ?_
  obtain ⟨g1, hf⟩ := gd_inv hf
  refine va_iald hx hb hK hP 9 2 rfl rfl g1 dX6_isOther_5 ?_
  refine lv_if_eq (tgt := 23) hx hb dX6_isOther_6 (by decide) (fun c2 => ?_) (fun c2 => ?_)
  · have hf := if_p c2 hf
    refine lv_iconst (v := 0) hx hb dX6_isOther_23 (by decide) ?_
    have h1 := Option.some.inj hf
    subst h1
    rw [hQ]
    exact W.zret (v := 0) (ty := .boolean) hx hb hr rfl (fun t ht hW => qEnd hP hS ht) hS.2.2 dX6_isOther_24
  · have hf := if_n c2 hf
    refine lv_aload_n hx hb dX6_isOther_9 rfl (lv_at hl 0 rfl) ?_
    refine va_get (D := D) (ci := 6) (v := .ref m9) (C := RX6) (T := TX6) (N := 23) hx hb hts w0 hown hK hP 0 rfl rfl 21 (by decide) w1 (fun _ h9 => h9) rfl dX6_isOther_10 ?_
    refine lv_iload_n hx hb dX6_isOther_13 rfl (lv_at hl 1 rfl) ?_
    obtain ⟨g3, hf⟩ := gd_inv hf
    refine va_iald hx hb hK hP 9 2 rfl rfl g3 dX6_isOther_14 ?_
    refine lv_iload_n hx hb dX6_isOther_15 rfl (lv_at hl 2 rfl) ?_
    refine lv_icmp_eq (tgt := 23) hx hb dX6_isOther_16 (by decide) (fun c4 => ?_) (fun c4 => ?_)
    · have hf := if_p c4 hf
      refine lv_iconst (v := 0) hx hb dX6_isOther_23 (by decide) ?_
      have h1 := Option.some.inj hf
      subst h1
      rw [hQ]
      exact W.zret (v := 0) (ty := .boolean) hx hb hr rfl (fun t ht hW => qEnd hP hS ht) hS.2.2 dX6_isOther_24
    · have hf := if_n c4 hf
      refine lv_iconst (v := 1) hx hb dX6_isOther_19 (by decide) ?_
      refine lv_goto (tgt := 24) hx hb dX6_isOther_20 (by decide) ?_
      have h1 := Option.some.inj hf
      subst h1
      rw [hQ]
      exact W.zret (v := 1) (ty := .boolean) hx hb hr rfl (fun t ht hW => qEnd hP hS ht) hS.2.2 dX6_isOther_24
set_option maxRecDepth 100000 in
set_option maxHeartbeats 4000000 in
theorem c_X6_lay (l : Launch) (D : va_G) (B : Nat) (adK adV : Nat → Nat) (cC cF cI cZ cM cS : ClassId) (ma : Nat) (mst : Int32) (mwy : Int32) (mmk : Int32) (mwt : Int32) (m1 : Nat) (m2 : Nat) (m3 : Nat) (m4 : Nat) (mun : Int32) (m5 : Nat) (m6 : Nat) (mln : Int32) (mfi : Int32) (mbe : Int32) (mrs : Int32) (mrw : Int32) (mcl : Int32) (mdo : Int32) (mnu : Int32) (m7 : Nat) (m8 : Nat) (m9 : Nat) (m10 : Nat) (mvl : Nat → Int32) (mof : Nat → Int32) (mw : Nat → Int32) (mf : Nat → UInt32) (mik : Nat → Int32) (mtx : Nat → Int32) (mwd : Nat → Int32) (msz : Nat → Int32) (mso : Nat → Int32) (mpl : Nat → Int32) (i : Int32) (k : Int32) (so : Int32) (v : Int32) (zz : Int32 × (Nat → Int32)) (hf : f_X6_lay msz mso mpl i k so v = some zz) : Ct l yX6_lay wsX6_lay { frames := 2, cells := 0, slots := 0, locals := 47 } D B adK adV (tysX cC cF cI cZ cM cS) [.ref ma, .int i, .int k, .int so, .int v] [(ma, .inr (6, [.int mst, .int mwy, .int mmk, .int mwt, .ref m1, .ref m2, .ref m3, .ref m4, .int mun, .ref m5, .ref m6, .int mln, .int mfi, .int mbe, .int mrs, .int mrw, .int mcl, .int mdo, .int mnu, .ref m7, .ref m8, .ref m9, .ref m10])), (m1, .inl (cI, 24, .inl mvl)), (m2, .inl (cI, 96, .inl mof)), (m3, .inl (cI, 168, .inl mw)), (m4, .inl (cF, 288, .inr (.inr (.inl mf)))), (m5, .inl (cZ, 2, .inl mik)), (m6, .inl (cI, 200, .inl mtx)), (m7, .inl (cI, 56, .inl mwd)), (m8, .inl (cI, 3, .inl msz)), (m9, .inl (cI, 3, .inl mso)), (m10, .inl (cI, 24, .inl mpl))] [(ma, .inr (6, [.int mst, .int mwy, .int mmk, .int mwt, .ref m1, .ref m2, .ref m3, .ref m4, .int mun, .ref m5, .ref m6, .int mln, .int mfi, .int mbe, .int mrs, .int mrw, .int mcl, .int mdo, .int mnu, .ref m7, .ref m8, .ref m9, .ref m10])), (m1, .inl (cI, 24, .inl mvl)), (m2, .inl (cI, 96, .inl mof)), (m3, .inl (cI, 168, .inl mw)), (m4, .inl (cF, 288, .inr (.inr (.inl mf)))), (m5, .inl (cZ, 2, .inl mik)), (m6, .inl (cI, 200, .inl mtx)), (m7, .inl (cI, 56, .inl mwd)), (m8, .inl (cI, 3, .inl msz)), (m9, .inl (cI, 3, .inl mso)), (m10, .inl (cI, 24, .inl zz.2))] (some (.int zz.1)) := by
  refine Ct.ofW (cc := cX6_lay) (maxL := 6) (ret := (some .int)) (by decide) rfl (Nat.le_of_ble_eq_true rfl) ?_
  intro p e s m args below meth c hx hb hr hml hts hown hlocks hnm hK hE A Q hQ hB H locs ls hP hD hS hl
  have hl : lv_has ls 6 [(0, .ref ma), (1, .int i), (2, .int k), (3, .int so), (4, .int v)] := hl
  have w0 := hts (.constantLong RX6 157 (2)) (by decide +kernel)
  have w1 := hts (.constantLong RX6 246 (999)) (by decide +kernel)
  have w2 : ∀ w ∈ u_ws RX6 TX6 23, w ∈ wsX6_lay := by decide +kernel
  have w3 := hts (.fieldLink RX6 43 "MotionStatesModel" "places" "[I") (by decide +kernel)
  unfold f_X6_lay at hf
  refine lv_iload_n hx hb dX6_lay_0 rfl (lv_at hl 1 rfl) ?_
  obtain ⟨r1, hc2, hf⟩ := bd_inv hf
  refine xcS (As := [.int i]) (rest := []) (ws' := [(ma, .inr (6, [.int mst, .int mwy, .int mmk, .int mwt, .ref m1, .ref m2, .ref m3, .ref m4, .int mun, .ref m5, .ref m6, .int mln, .int mfi, .int mbe, .int mrs, .int mrw, .int mcl, .int mdo, .int mnu, .ref m7, .ref m8, .ref m9, .ref m10])), (m1, .inl (cI, 24, .inl mvl)), (m2, .inl (cI, 96, .inl mof)), (m3, .inl (cI, 168, .inl mw)), (m4, .inl (cF, 288, .inr (.inr (.inl mf)))), (m5, .inl (cZ, 2, .inl mik)), (m6, .inl (cI, 200, .inl mtx)), (m7, .inl (cI, 56, .inl mwd)), (m8, .inl (cI, 3, .inl msz)), (m9, .inl (cI, 3, .inl mso)), (m10, .inl (cI, 24, .inl mpl))]) ⟨hx, hb, hml, hown, hts⟩ (c_X6_isThird l D B adK adV cC cF cI cZ cM cS i  r1 hc2) (va_cwS 1 hts gX6_lay_X6_isThird rfl rfl rfl (by decide +kernel) ⟨Nat.le_of_ble_eq_true rfl, Nat.le_of_ble_eq_true rfl⟩) hK hP hD hS hB hE [] rfl rfl rfl rfl rfl hl.1 rfl (Nat.le_of_ble_eq_true rfl) dX6_lay_1 ⟨Nat.le_of_ble_eq_true rfl, Nat.le_of_ble_eq_true rfl⟩ (fun H locs hP hD hS => ?_)
  refine W.eq (g2 := F0 m 4 ls [.int r1]) rfl ?_
  refine lv_if_ne (tgt := 10) hx hb dX6_lay_4 (by decide) (fun c3 => ?_) (fun c3 => ?_)
  · have hf := if_n c3 hf
    refine lv_iload_n hx hb dX6_lay_10 rfl (lv_at hl 3 rfl) ?_
    refine lv_i2l hx hb dX6_lay_11 rfl ?_
    refine lv_lconst (v := 1) hx hb dX6_lay_12 (by decide) ?_
    refine lv_ldc2 hx hb hown w0 dX6_lay_13 ?_
    obtain ⟨r4, hc5, hf⟩ := bd_inv hf
    refine xcS (As := [.long (so.toInt64), .long 1, .long 2]) (rest := []) (ws' := [(ma, .inr (6, [.int mst, .int mwy, .int mmk, .int mwt, .ref m1, .ref m2, .ref m3, .ref m4, .int mun, .ref m5, .ref m6, .int mln, .int mfi, .int mbe, .int mrs, .int mrw, .int mcl, .int mdo, .int mnu, .ref m7, .ref m8, .ref m9, .ref m10])), (m1, .inl (cI, 24, .inl mvl)), (m2, .inl (cI, 96, .inl mof)), (m3, .inl (cI, 168, .inl mw)), (m4, .inl (cF, 288, .inr (.inr (.inl mf)))), (m5, .inl (cZ, 2, .inl mik)), (m6, .inl (cI, 200, .inl mtx)), (m7, .inl (cI, 56, .inl mwd)), (m8, .inl (cI, 3, .inl msz)), (m9, .inl (cI, 3, .inl mso)), (m10, .inl (cI, 24, .inl mpl))]) ⟨hx, hb, hml, hown, hts⟩ (c_X6_in l D B adK adV cC cF cI cZ cM cS (so.toInt64) 1 2  r4 hc5) (va_cwS 3 hts gX6_lay_X6_in rfl rfl rfl (by decide +kernel) ⟨Nat.le_of_ble_eq_true rfl, Nat.le_of_ble_eq_true rfl⟩) hK hP hD hS hB hE [] rfl rfl rfl rfl rfl hl.1 rfl (Nat.le_of_ble_eq_true rfl) dX6_lay_16 ⟨Nat.le_of_ble_eq_true rfl, Nat.le_of_ble_eq_true rfl⟩ (fun H locs hP hD hS => ?_)
    refine W.eq (g2 := F0 m 19 ls [.int r4]) rfl ?_
    refine lv_if_eq (tgt := 35) hx hb dX6_lay_19 (by decide) (fun c6 => ?_) (fun c6 => ?_)
    · have hf := if_p c6 hf
      refine lv_bipush (v := (-3)) hx hb dX6_lay_35 (by decide) ?_
      have h1 := Option.some.inj hf
      subst h1
      rw [hQ]
      exact W.iret (v := (-3)) hx hb hr (fun t ht hW => qEnd hP hS ht) hS.2.2 dX6_lay_37
    · have hf := if_n c6 hf
      refine lv_iload hx hb dX6_lay_22 (lv_at hl 4 rfl) ?_
      refine lv_i2l hx hb dX6_lay_24 rfl ?_
      refine lv_lconst (v := 0) hx hb dX6_lay_25 (by decide) ?_
      refine lv_ldc2 hx hb hown w1 dX6_lay_26 ?_
      obtain ⟨r7, hc8, hf⟩ := bd_inv hf
      refine xcS (As := [.long (v.toInt64), .long 0, .long 999]) (rest := []) (ws' := [(ma, .inr (6, [.int mst, .int mwy, .int mmk, .int mwt, .ref m1, .ref m2, .ref m3, .ref m4, .int mun, .ref m5, .ref m6, .int mln, .int mfi, .int mbe, .int mrs, .int mrw, .int mcl, .int mdo, .int mnu, .ref m7, .ref m8, .ref m9, .ref m10])), (m1, .inl (cI, 24, .inl mvl)), (m2, .inl (cI, 96, .inl mof)), (m3, .inl (cI, 168, .inl mw)), (m4, .inl (cF, 288, .inr (.inr (.inl mf)))), (m5, .inl (cZ, 2, .inl mik)), (m6, .inl (cI, 200, .inl mtx)), (m7, .inl (cI, 56, .inl mwd)), (m8, .inl (cI, 3, .inl msz)), (m9, .inl (cI, 3, .inl mso)), (m10, .inl (cI, 24, .inl mpl))]) ⟨hx, hb, hml, hown, hts⟩ (c_X6_in l D B adK adV cC cF cI cZ cM cS (v.toInt64) 0 999  r7 hc8) (va_cwS 3 hts gX6_lay_X6_in rfl rfl rfl (by decide +kernel) ⟨Nat.le_of_ble_eq_true rfl, Nat.le_of_ble_eq_true rfl⟩) hK hP hD hS hB hE [] rfl rfl rfl rfl rfl hl.1 rfl (Nat.le_of_ble_eq_true rfl) dX6_lay_29 ⟨Nat.le_of_ble_eq_true rfl, Nat.le_of_ble_eq_true rfl⟩ (fun H locs hP hD hS => ?_)
      refine W.eq (g2 := F0 m 32 ls [.int r7]) rfl ?_
      refine lv_if_ne (tgt := 38) hx hb dX6_lay_32 (by decide) (fun c9 => ?_) (fun c9 => ?_)
      · have hf := if_n c9 hf
        refine lv_aload_n hx hb dX6_lay_38 rfl (lv_at hl 0 rfl) ?_
        refine lv_iload_n hx hb dX6_lay_39 rfl (lv_at hl 1 rfl) ?_
        refine lv_iload_n hx hb dX6_lay_40 rfl (lv_at hl 2 rfl) ?_
        obtain ⟨r10, hc11, hf⟩ := bd_inv hf
        refine xcV (As := [.int i, .int k]) (rest := []) (ws' := [(ma, .inr (6, [.int mst, .int mwy, .int mmk, .int mwt, .ref m1, .ref m2, .ref m3, .ref m4, .int mun, .ref m5, .ref m6, .int mln, .int mfi, .int mbe, .int mrs, .int mrw, .int mcl, .int mdo, .int mnu, .ref m7, .ref m8, .ref m9, .ref m10])), (m1, .inl (cI, 24, .inl mvl)), (m2, .inl (cI, 96, .inl mof)), (m3, .inl (cI, 168, .inl mw)), (m4, .inl (cF, 288, .inr (.inr (.inl mf)))), (m5, .inl (cZ, 2, .inl mik)), (m6, .inl (cI, 200, .inl mtx)), (m7, .inl (cI, 56, .inl mwd)), (m8, .inl (cI, 3, .inl msz)), (m9, .inl (cI, 3, .inl mso)), (m10, .inl (cI, 24, .inl mpl))]) ⟨hx, hb, hml, hown, hts⟩ (c_X6_against l D B adK adV cC cF cI cZ cM cS ma mst mwy mmk mwt m1 m2 m3 m4 mun m5 m6 mln mfi mbe mrs mrw mcl mdo mnu m7 m8 m9 m10 mvl mof mw mf mik mtx mwd msz mso mpl i k  r10 hc11) (cwV 2 hts gX6_lay_X6_against rfl rfl rfl (by decide +kernel) ⟨Nat.le_of_ble_eq_true rfl, Nat.le_of_ble_eq_true rfl⟩) (va_recv hK hP (ci := 6) (q0 := 0) rfl rfl) hK hP hD hS hB hE [0, 1, 2, 3, 4, 5, 6, 7, 8, 9, 10] rfl rfl rfl rfl rfl hl.1 rfl (Nat.le_of_ble_eq_true rfl) dX6_lay_41 ⟨Nat.le_of_ble_eq_true rfl, Nat.le_of_ble_eq_true rfl⟩ (fun H locs hP hD hS => ?_)
        refine W.eq (g2 := F0 m 44 ls [.int r10]) rfl ?_
        refine lv_istore (lv' := [(5, .int r10), (0, .ref ma), (1, .int i), (2, .int k), (3, .int so), (4, .int v)]) hx hb dX6_lay_44 hl (by decide) rfl (fun ls hl => ?_)
        refine lv_iload hx hb dX6_lay_46 (lv_at hl 0 rfl) ?_
        refine lv_if_eq (tgt := 54) hx hb dX6_lay_48 (by decide) (fun c12 => ?_) (fun c12 => ?_)
        · have hf := if_p c12 hf
          refine lv_aload_n hx hb dX6_lay_54 rfl (lv_at hl 1 rfl) ?_
          refine lv_iload_n hx hb dX6_lay_55 rfl (lv_at hl 2 rfl) ?_
          refine lv_iload_n hx hb dX6_lay_56 rfl (lv_at hl 4 rfl) ?_
          obtain ⟨r13, hc14, hf⟩ := bd_inv hf
          refine xcV (As := [.int i, .int so]) (rest := []) (ws' := [(ma, .inr (6, [.int mst, .int mwy, .int mmk, .int mwt, .ref m1, .ref m2, .ref m3, .ref m4, .int mun, .ref m5, .ref m6, .int mln, .int mfi, .int mbe, .int mrs, .int mrw, .int mcl, .int mdo, .int mnu, .ref m7, .ref m8, .ref m9, .ref m10])), (m1, .inl (cI, 24, .inl mvl)), (m2, .inl (cI, 96, .inl mof)), (m3, .inl (cI, 168, .inl mw)), (m4, .inl (cF, 288, .inr (.inr (.inl mf)))), (m5, .inl (cZ, 2, .inl mik)), (m6, .inl (cI, 200, .inl mtx)), (m7, .inl (cI, 56, .inl mwd)), (m8, .inl (cI, 3, .inl msz)), (m9, .inl (cI, 3, .inl mso)), (m10, .inl (cI, 24, .inl mpl))]) ⟨hx, hb, hml, hown, hts⟩ (c_X6_isOther l D B adK adV cC cF cI cZ cM cS ma mst mwy mmk mwt m1 m2 m3 m4 mun m5 m6 mln mfi mbe mrs mrw mcl mdo mnu m7 m8 m9 m10 mvl mof mw mf mik mtx mwd msz mso mpl i so  r13 hc14) (cwV 2 hts gX6_lay_X6_isOther rfl rfl rfl (by decide +kernel) ⟨Nat.le_of_ble_eq_true rfl, Nat.le_of_ble_eq_true rfl⟩) (va_recv hK hP (ci := 6) (q0 := 0) rfl rfl) hK hP hD hS hB hE [0, 1, 2, 3, 4, 5, 6, 7, 8, 9, 10] rfl rfl rfl rfl rfl hl.1 rfl (Nat.le_of_ble_eq_true rfl) dX6_lay_57 ⟨Nat.le_of_ble_eq_true rfl, Nat.le_of_ble_eq_true rfl⟩ (fun H locs hP hD hS => ?_)
          refine W.eq (g2 := F0 m 60 ls [.int r13]) rfl ?_
          refine lv_if_eq (tgt := 66) hx hb dX6_lay_60 (by decide) (fun c15 => ?_) (fun c15 => ?_)
          · have hf := if_p c15 hf
            refine lv_aload_n hx hb dX6_lay_66 rfl (lv_at hl 1 rfl) ?_
            refine va_get (D := D) (ci := 6) (v := .ref m10) (C := RX6) (T := TX6) (N := 23) hx hb hts w2 hown hK hP 0 rfl rfl 22 (by decide) w3 (fun _ h9 => h9) rfl dX6_lay_67 ?_
            refine lv_bipush (v := 8) hx hb dX6_lay_70 (by decide) ?_
            refine lv_iload_n hx hb dX6_lay_72 rfl (lv_at hl 2 rfl) ?_
            refine lv_imul hx hb dX6_lay_73 ?_
            refine lv_iload_n hx hb dX6_lay_74 rfl (lv_at hl 3 rfl) ?_
            refine lv_iadd hx hb dX6_lay_75 ?_
            refine lv_iload_n hx hb dX6_lay_76 rfl (lv_at hl 4 rfl) ?_
            refine lv_iconst (v := 1) hx hb dX6_lay_77 (by decide) ?_
            refine lv_icmp_ne (tgt := 86) hx hb dX6_lay_78 (by decide) (fun c16 => ?_) (fun c16 => ?_)
            · have hf := if_n c16 hf
              refine lv_sipush (v := 1000) hx hb dX6_lay_86 (by decide) ?_
              refine lv_iload hx hb dX6_lay_89 (lv_at hl 5 rfl) ?_
              refine lv_iadd hx hb dX6_lay_91 ?_
              obtain ⟨g17, hf⟩ := gd_inv hf
              refine va_iast hx hb hK hP hD hS 10 2 rfl rfl g17 dX6_lay_92 (fun H locs hP hD hS => ?_)
              have hP : va_P D vwCl [(ma, .inr (6, [.int mst, .int mwy, .int mmk, .int mwt, .ref m1, .ref m2, .ref m3, .ref m4, .int mun, .ref m5, .ref m6, .int mln, .int mfi, .int mbe, .int mrs, .int mrw, .int mcl, .int mdo, .int mnu, .ref m7, .ref m8, .ref m9, .ref m10])), (m1, .inl (cI, 24, .inl mvl)), (m2, .inl (cI, 96, .inl mof)), (m3, .inl (cI, 168, .inl mw)), (m4, .inl (cF, 288, .inr (.inr (.inl mf)))), (m5, .inl (cZ, 2, .inl mik)), (m6, .inl (cI, 200, .inl mtx)), (m7, .inl (cI, 56, .inl mwd)), (m8, .inl (cI, 3, .inl msz)), (m9, .inl (cI, 3, .inl mso)), (m10, .inl (cI, 24, .inl (upd mpl ((((8 : Int32) * i) + k).toNatClampNeg) ((1000 : Int32) + v))))] H := hP
              have hD : va_D A [(ma, .inr (6, [.int mst, .int mwy, .int mmk, .int mwt, .ref m1, .ref m2, .ref m3, .ref m4, .int mun, .ref m5, .ref m6, .int mln, .int mfi, .int mbe, .int mrs, .int mrw, .int mcl, .int mdo, .int mnu, .ref m7, .ref m8, .ref m9, .ref m10])), (m1, .inl (cI, 24, .inl mvl)), (m2, .inl (cI, 96, .inl mof)), (m3, .inl (cI, 168, .inl mw)), (m4, .inl (cF, 288, .inr (.inr (.inl mf)))), (m5, .inl (cZ, 2, .inl mik)), (m6, .inl (cI, 200, .inl mtx)), (m7, .inl (cI, 56, .inl mwd)), (m8, .inl (cI, 3, .inl msz)), (m9, .inl (cI, 3, .inl mso)), (m10, .inl (cI, 24, .inl (upd mpl ((((8 : Int32) * i) + k).toNatClampNeg) ((1000 : Int32) + v))))] := hD
              refine lv_iload hx hb dX6_lay_93 (lv_at hl 5 rfl) ?_
              have h1 := Option.some.inj hf
              subst h1
              rw [hQ]
              exact W.iret (v := v) hx hb hr (fun t ht hW => qEnd hP hS ht) hS.2.2 dX6_lay_95
            · have hf := if_p c16 hf
              refine lv_iload hx hb dX6_lay_81 (lv_at hl 5 rfl) ?_
              refine lv_goto (tgt := 92) hx hb dX6_lay_83 (by decide) ?_
              obtain ⟨g18, hf⟩ := gd_inv hf
              refine va_iast hx hb hK hP hD hS 10 2 rfl rfl g18 dX6_lay_92 (fun H locs hP hD hS => ?_)
              have hP : va_P D vwCl [(ma, .inr (6, [.int mst, .int mwy, .int mmk, .int mwt, .ref m1, .ref m2, .ref m3, .ref m4, .int mun, .ref m5, .ref m6, .int mln, .int mfi, .int mbe, .int mrs, .int mrw, .int mcl, .int mdo, .int mnu, .ref m7, .ref m8, .ref m9, .ref m10])), (m1, .inl (cI, 24, .inl mvl)), (m2, .inl (cI, 96, .inl mof)), (m3, .inl (cI, 168, .inl mw)), (m4, .inl (cF, 288, .inr (.inr (.inl mf)))), (m5, .inl (cZ, 2, .inl mik)), (m6, .inl (cI, 200, .inl mtx)), (m7, .inl (cI, 56, .inl mwd)), (m8, .inl (cI, 3, .inl msz)), (m9, .inl (cI, 3, .inl mso)), (m10, .inl (cI, 24, .inl (upd mpl ((((8 : Int32) * i) + k).toNatClampNeg) v)))] H := hP
              have hD : va_D A [(ma, .inr (6, [.int mst, .int mwy, .int mmk, .int mwt, .ref m1, .ref m2, .ref m3, .ref m4, .int mun, .ref m5, .ref m6, .int mln, .int mfi, .int mbe, .int mrs, .int mrw, .int mcl, .int mdo, .int mnu, .ref m7, .ref m8, .ref m9, .ref m10])), (m1, .inl (cI, 24, .inl mvl)), (m2, .inl (cI, 96, .inl mof)), (m3, .inl (cI, 168, .inl mw)), (m4, .inl (cF, 288, .inr (.inr (.inl mf)))), (m5, .inl (cZ, 2, .inl mik)), (m6, .inl (cI, 200, .inl mtx)), (m7, .inl (cI, 56, .inl mwd)), (m8, .inl (cI, 3, .inl msz)), (m9, .inl (cI, 3, .inl mso)), (m10, .inl (cI, 24, .inl (upd mpl ((((8 : Int32) * i) + k).toNatClampNeg) v)))] := hD
              refine lv_iload hx hb dX6_lay_93 (lv_at hl 5 rfl) ?_
              have h1 := Option.some.inj hf
              subst h1
              rw [hQ]
              exact W.iret (v := v) hx hb hr (fun t ht hW => qEnd hP hS ht) hS.2.2 dX6_lay_95
          · have hf := if_n c15 hf
            refine lv_bipush (v := (-14)) hx hb dX6_lay_63 (by decide) ?_
            have h1 := Option.some.inj hf
            subst h1
            rw [hQ]
            exact W.iret (v := (-14)) hx hb hr (fun t ht hW => qEnd hP hS ht) hS.2.2 dX6_lay_65
        · have hf := if_n c12 hf
          refine lv_iload hx hb dX6_lay_51 (lv_at hl 0 rfl) ?_
          have h1 := Option.some.inj hf
          subst h1
          rw [hQ]
          exact W.iret (v := r10) hx hb hr (fun t ht hW => qEnd hP hS ht) hS.2.2 dX6_lay_53
      · have hf := if_p c9 hf
        refine lv_bipush (v := (-3)) hx hb dX6_lay_35 (by decide) ?_
        have h1 := Option.some.inj hf
        subst h1
        rw [hQ]
        exact W.iret (v := (-3)) hx hb hr (fun t ht hW => qEnd hP hS ht) hS.2.2 dX6_lay_37
  · have hf := if_p c3 hf
    refine lv_bipush (v := (-2)) hx hb dX6_lay_7 (by decide) ?_
    have h1 := Option.some.inj hf
    subst h1
    rw [hQ]
    exact W.iret (v := (-2)) hx hb hr (fun t ht hW => qEnd hP hS ht) hS.2.2 dX6_lay_9
set_option maxRecDepth 100000 in
set_option maxHeartbeats 4000000 in
theorem c_X6_lookOf (l : Launch) (D : va_G) (B : Nat) (adK adV : Nat → Nat) (cC cF cI cZ cM cS : ClassId) (ma : Nat) (mst : Int32) (mwy : Int32) (mmk : Int32) (mwt : Int32) (m1 : Nat) (m2 : Nat) (m3 : Nat) (m4 : Nat) (mun : Int32) (m5 : Nat) (m6 : Nat) (mln : Int32) (mfi : Int32) (mbe : Int32) (mrs : Int32) (mrw : Int32) (mcl : Int32) (mdo : Int32) (mnu : Int32) (m7 : Nat) (m8 : Nat) (m9 : Nat) (m10 : Nat) (mvl : Nat → Int32) (mof : Nat → Int32) (mw : Nat → Int32) (mf : Nat → UInt32) (mik : Nat → Int32) (mtx : Nat → Int32) (mwd : Nat → Int32) (msz : Nat → Int32) (mso : Nat → Int32) (mpl : Nat → Int32) (i : Int32) (k : Int32) (zz : Int32) (hf : f_X6_lookOf msz mpl i k = some zz) : Ct l yX6_lookOf wsX6_lookOf { frames := 2, cells := 0, slots := 0, locals := 47 } D B adK adV (tysX cC cF cI cZ cM cS) [.ref ma, .int i, .int k] [(ma, .inr (6, [.int mst, .int mwy, .int mmk, .int mwt, .ref m1, .ref m2, .ref m3, .ref m4, .int mun, .ref m5, .ref m6, .int mln, .int mfi, .int mbe, .int mrs, .int mrw, .int mcl, .int mdo, .int mnu, .ref m7, .ref m8, .ref m9, .ref m10])), (m1, .inl (cI, 24, .inl mvl)), (m2, .inl (cI, 96, .inl mof)), (m3, .inl (cI, 168, .inl mw)), (m4, .inl (cF, 288, .inr (.inr (.inl mf)))), (m5, .inl (cZ, 2, .inl mik)), (m6, .inl (cI, 200, .inl mtx)), (m7, .inl (cI, 56, .inl mwd)), (m8, .inl (cI, 3, .inl msz)), (m9, .inl (cI, 3, .inl mso)), (m10, .inl (cI, 24, .inl mpl))] [(ma, .inr (6, [.int mst, .int mwy, .int mmk, .int mwt, .ref m1, .ref m2, .ref m3, .ref m4, .int mun, .ref m5, .ref m6, .int mln, .int mfi, .int mbe, .int mrs, .int mrw, .int mcl, .int mdo, .int mnu, .ref m7, .ref m8, .ref m9, .ref m10])), (m1, .inl (cI, 24, .inl mvl)), (m2, .inl (cI, 96, .inl mof)), (m3, .inl (cI, 168, .inl mw)), (m4, .inl (cF, 288, .inr (.inr (.inl mf)))), (m5, .inl (cZ, 2, .inl mik)), (m6, .inl (cI, 200, .inl mtx)), (m7, .inl (cI, 56, .inl mwd)), (m8, .inl (cI, 3, .inl msz)), (m9, .inl (cI, 3, .inl mso)), (m10, .inl (cI, 24, .inl mpl))] (some (.int zz)) := by
  refine Ct.ofW (cc := cX6_lookOf) (maxL := 4) (ret := (some .int)) (by decide) rfl (Nat.le_of_ble_eq_true rfl) ?_
  intro p e s m args below meth c hx hb hr hml hts hown hlocks hnm hK hE A Q hQ hB H locs ls hP hD hS hl
  have hl : lv_has ls 4 [(0, .ref ma), (1, .int i), (2, .int k)] := hl
  have w0 : ∀ w ∈ u_ws RX6 TX6 23, w ∈ wsX6_lookOf := by decide +kernel
  have w1 := hts (.fieldLink RX6 43 "MotionStatesModel" "places" "[I") (by decide +kernel)
  unfold f_X6_lookOf at hf
  refine lv_aload_n hx hb dX6_lookOf_0 rfl (lv_at hl 0 rfl) ?_
  refine lv_iload_n hx hb dX6_lookOf_1 rfl (lv_at hl 1 rfl) ?_
  refine lv_iload_n hx hb dX6_lookOf_2 rfl (lv_at hl 2 rfl) ?_
  obtain ⟨r1, hc2, hf⟩ := bd_inv hf
  refine xcV (As := [.int i, .int k]) (rest := []) (ws' := [(ma, .inr (6, [.int mst, .int mwy, .int mmk, .int mwt, .ref m1, .ref m2, .ref m3, .ref m4, .int mun, .ref m5, .ref m6, .int mln, .int mfi, .int mbe, .int mrs, .int mrw, .int mcl, .int mdo, .int mnu, .ref m7, .ref m8, .ref m9, .ref m10])), (m1, .inl (cI, 24, .inl mvl)), (m2, .inl (cI, 96, .inl mof)), (m3, .inl (cI, 168, .inl mw)), (m4, .inl (cF, 288, .inr (.inr (.inl mf)))), (m5, .inl (cZ, 2, .inl mik)), (m6, .inl (cI, 200, .inl mtx)), (m7, .inl (cI, 56, .inl mwd)), (m8, .inl (cI, 3, .inl msz)), (m9, .inl (cI, 3, .inl mso)), (m10, .inl (cI, 24, .inl mpl))]) ⟨hx, hb, hml, hown, hts⟩ (c_X6_against l D B adK adV cC cF cI cZ cM cS ma mst mwy mmk mwt m1 m2 m3 m4 mun m5 m6 mln mfi mbe mrs mrw mcl mdo mnu m7 m8 m9 m10 mvl mof mw mf mik mtx mwd msz mso mpl i k  r1 hc2) (cwV 2 hts gX6_lookOf_X6_against rfl rfl rfl (by decide +kernel) ⟨Nat.le_of_ble_eq_true rfl, Nat.le_of_ble_eq_true rfl⟩) (va_recv hK hP (ci := 6) (q0 := 0) rfl rfl) hK hP hD hS hB hE [0, 1, 2, 3, 4, 5, 6, 7, 8, 9, 10] rfl rfl rfl rfl rfl hl.1 rfl (Nat.le_of_ble_eq_true rfl) dX6_lookOf_3 ⟨Nat.le_of_ble_eq_true rfl, Nat.le_of_ble_eq_true rfl⟩ (fun H locs hP hD hS => ?_)
  refine W.eq (g2 := F0 m 6 ls [.int r1]) rfl ?_
  refine lv_istore_n (lv' := [(3, .int r1), (0, .ref ma), (1, .int i), (2, .int k)]) hx hb dX6_lookOf_6 rfl hl (by decide) rfl (fun ls hl => ?_)
  refine lv_iload_n hx hb dX6_lookOf_7 rfl (lv_at hl 0 rfl) ?_
  refine lv_if_eq (tgt := 15) hx hb dX6_lookOf_8 (by decide) (fun c3 => ?_) (fun c3 => ?_)
  · have hf := if_p c3 hf
    refine lv_aload_n hx hb dX6_lookOf_15 rfl (lv_at hl 1 rfl) ?_
    refine va_get (D := D) (ci := 6) (v := .ref m10) (C := RX6) (T := TX6) (N := 23) hx hb hts w0 hown hK hP 0 rfl rfl 22 (by decide) w1 (fun _ h9 => h9) rfl dX6_lookOf_16 ?_
    refine lv_bipush (v := 8) hx hb dX6_lookOf_19 (by decide) ?_
    refine lv_iload_n hx hb dX6_lookOf_21 rfl (lv_at hl 2 rfl) ?_
    refine lv_imul hx hb dX6_lookOf_22 ?_
    refine lv_iload_n hx hb dX6_lookOf_23 rfl (lv_at hl 3 rfl) ?_
    refine lv_iadd hx hb dX6_lookOf_24 ?_
    obtain ⟨g4, hf⟩ := gd_inv hf
    refine va_iald hx hb hK hP 10 2 rfl rfl g4 dX6_lookOf_25 ?_
    refine lv_iconst (v := (-1)) hx hb dX6_lookOf_26 (by decide) ?_
    refine lv_icmp_ne (tgt := 35) hx hb dX6_lookOf_27 (by decide) (fun c5 => ?_) (fun c5 => ?_)
    · have hf := if_n c5 hf
      refine lv_aload_n hx hb dX6_lookOf_35 rfl (lv_at hl 1 rfl) ?_
      refine va_get (D := D) (ci := 6) (v := .ref m10) (C := RX6) (T := TX6) (N := 23) hx hb hts w0 hown hK hP 0 rfl rfl 22 (by decide) w1 (fun _ h9 => h9) rfl dX6_lookOf_36 ?_
      refine lv_bipush (v := 8) hx hb dX6_lookOf_39 (by decide) ?_
      refine lv_iload_n hx hb dX6_lookOf_41 rfl (lv_at hl 2 rfl) ?_
      refine lv_imul hx hb dX6_lookOf_42 ?_
      refine lv_iload_n hx hb dX6_lookOf_43 rfl (lv_at hl 3 rfl) ?_
      refine lv_iadd hx hb dX6_lookOf_44 ?_
      obtain ⟨g6, hf⟩ := gd_inv hf
      refine va_iald hx hb hK hP 10 2 rfl rfl g6 dX6_lookOf_45 ?_
      have h1 := Option.some.inj hf
      subst h1
      rw [hQ]
      exact W.iret (v := (mpl ((((8 : Int32) * i) + k).toNatClampNeg))) hx hb hr (fun t ht hW => qEnd hP hS ht) hS.2.2 dX6_lookOf_46
    · have hf := if_p c5 hf
      refine lv_bipush (v := (-15)) hx hb dX6_lookOf_30 (by decide) ?_
      refine lv_goto (tgt := 46) hx hb dX6_lookOf_32 (by decide) ?_
      have h1 := Option.some.inj hf
      subst h1
      rw [hQ]
      exact W.iret (v := (-15)) hx hb hr (fun t ht hW => qEnd hP hS ht) hS.2.2 dX6_lookOf_46
  · have hf := if_n c3 hf
    refine lv_iload_n hx hb dX6_lookOf_11 rfl (lv_at hl 0 rfl) ?_
    refine lv_goto (tgt := 46) hx hb dX6_lookOf_12 (by decide) ?_
    have h1 := Option.some.inj hf
    subst h1
    rw [hQ]
    exact W.iret (v := r1) hx hb hr (fun t ht hW => qEnd hP hS ht) hS.2.2 dX6_lookOf_46
set_option maxRecDepth 100000 in
set_option maxHeartbeats 4000000 in
theorem c_X6_look (l : Launch) (D : va_G) (B : Nat) (adK adV : Nat → Nat) (cC cF cI cZ cM cS : ClassId) (ma : Nat) (mst : Int32) (mwy : Int32) (mmk : Int32) (mwt : Int32) (m1 : Nat) (m2 : Nat) (m3 : Nat) (m4 : Nat) (mun : Int32) (m5 : Nat) (m6 : Nat) (mln : Int32) (mfi : Int32) (mbe : Int32) (mrs : Int32) (mrw : Int32) (mcl : Int32) (mdo : Int32) (mnu : Int32) (m7 : Nat) (m8 : Nat) (m9 : Nat) (m10 : Nat) (mvl : Nat → Int32) (mof : Nat → Int32) (mw : Nat → Int32) (mf : Nat → UInt32) (mik : Nat → Int32) (mtx : Nat → Int32) (mwd : Nat → Int32) (msz : Nat → Int32) (mso : Nat → Int32) (mpl : Nat → Int32) (i : Int32) (k : Int32) (zz : Int32) (hf : f_X6_look msz mpl i k = some zz) : Ct l yX6_look wsX6_look { frames := 3, cells := 0, slots := 0, locals := 70 } D B adK adV (tysX cC cF cI cZ cM cS) [.ref ma, .int i, .int k] [(ma, .inr (6, [.int mst, .int mwy, .int mmk, .int mwt, .ref m1, .ref m2, .ref m3, .ref m4, .int mun, .ref m5, .ref m6, .int mln, .int mfi, .int mbe, .int mrs, .int mrw, .int mcl, .int mdo, .int mnu, .ref m7, .ref m8, .ref m9, .ref m10])), (m1, .inl (cI, 24, .inl mvl)), (m2, .inl (cI, 96, .inl mof)), (m3, .inl (cI, 168, .inl mw)), (m4, .inl (cF, 288, .inr (.inr (.inl mf)))), (m5, .inl (cZ, 2, .inl mik)), (m6, .inl (cI, 200, .inl mtx)), (m7, .inl (cI, 56, .inl mwd)), (m8, .inl (cI, 3, .inl msz)), (m9, .inl (cI, 3, .inl mso)), (m10, .inl (cI, 24, .inl mpl))] [(ma, .inr (6, [.int mst, .int mwy, .int mmk, .int mwt, .ref m1, .ref m2, .ref m3, .ref m4, .int mun, .ref m5, .ref m6, .int mln, .int mfi, .int mbe, .int mrs, .int mrw, .int mcl, .int mdo, .int mnu, .ref m7, .ref m8, .ref m9, .ref m10])), (m1, .inl (cI, 24, .inl mvl)), (m2, .inl (cI, 96, .inl mof)), (m3, .inl (cI, 168, .inl mw)), (m4, .inl (cF, 288, .inr (.inr (.inl mf)))), (m5, .inl (cZ, 2, .inl mik)), (m6, .inl (cI, 200, .inl mtx)), (m7, .inl (cI, 56, .inl mwd)), (m8, .inl (cI, 3, .inl msz)), (m9, .inl (cI, 3, .inl mso)), (m10, .inl (cI, 24, .inl mpl))] (some (.int zz)) := by
  refine Ct.ofW (cc := cX6_look) (maxL := 3) (ret := (some .int)) (by decide) rfl (Nat.le_of_ble_eq_true rfl) ?_
  intro p e s m args below meth c hx hb hr hml hts hown hlocks hnm hK hE A Q hQ hB H locs ls hP hD hS hl
  have hl : lv_has ls 3 [(0, .ref ma), (1, .int i), (2, .int k)] := hl
  unfold f_X6_look at hf
  refine lv_iload_n hx hb dX6_look_0 rfl (lv_at hl 1 rfl) ?_
  obtain ⟨r1, hc2, hf⟩ := bd_inv hf
  refine xcS (As := [.int i]) (rest := []) (ws' := [(ma, .inr (6, [.int mst, .int mwy, .int mmk, .int mwt, .ref m1, .ref m2, .ref m3, .ref m4, .int mun, .ref m5, .ref m6, .int mln, .int mfi, .int mbe, .int mrs, .int mrw, .int mcl, .int mdo, .int mnu, .ref m7, .ref m8, .ref m9, .ref m10])), (m1, .inl (cI, 24, .inl mvl)), (m2, .inl (cI, 96, .inl mof)), (m3, .inl (cI, 168, .inl mw)), (m4, .inl (cF, 288, .inr (.inr (.inl mf)))), (m5, .inl (cZ, 2, .inl mik)), (m6, .inl (cI, 200, .inl mtx)), (m7, .inl (cI, 56, .inl mwd)), (m8, .inl (cI, 3, .inl msz)), (m9, .inl (cI, 3, .inl mso)), (m10, .inl (cI, 24, .inl mpl))]) ⟨hx, hb, hml, hown, hts⟩ (c_X6_isThird l D B adK adV cC cF cI cZ cM cS i  r1 hc2) (va_cwS 1 hts gX6_look_X6_isThird rfl rfl rfl (by decide +kernel) ⟨Nat.le_of_ble_eq_true rfl, Nat.le_of_ble_eq_true rfl⟩) hK hP hD hS hB hE [] rfl rfl rfl rfl rfl hl.1 rfl (Nat.le_of_ble_eq_true rfl) dX6_look_1 ⟨Nat.le_of_ble_eq_true rfl, Nat.le_of_ble_eq_true rfl⟩ (fun H locs hP hD hS => ?_)
  refine W.eq (g2 := F0 m 4 ls [.int r1]) rfl ?_
  refine lv_if_eq (tgt := 16) hx hb dX6_look_4 (by decide) (fun c3 => ?_) (fun c3 => ?_)
  · have hf := if_p c3 hf
    refine lv_bipush (v := (-2)) hx hb dX6_look_16 (by decide) ?_
    have h1 := Option.some.inj hf
    subst h1
    rw [hQ]
    exact W.iret (v := (-2)) hx hb hr (fun t ht hW => qEnd hP hS ht) hS.2.2 dX6_look_18
  · have hf := if_n c3 hf
    refine lv_aload_n hx hb dX6_look_7 rfl (lv_at hl 0 rfl) ?_
    refine lv_iload_n hx hb dX6_look_8 rfl (lv_at hl 1 rfl) ?_
    refine lv_iload_n hx hb dX6_look_9 rfl (lv_at hl 2 rfl) ?_
    obtain ⟨r4, hc5, hf⟩ := bd_inv hf
    refine xcV (As := [.int i, .int k]) (rest := []) (ws' := [(ma, .inr (6, [.int mst, .int mwy, .int mmk, .int mwt, .ref m1, .ref m2, .ref m3, .ref m4, .int mun, .ref m5, .ref m6, .int mln, .int mfi, .int mbe, .int mrs, .int mrw, .int mcl, .int mdo, .int mnu, .ref m7, .ref m8, .ref m9, .ref m10])), (m1, .inl (cI, 24, .inl mvl)), (m2, .inl (cI, 96, .inl mof)), (m3, .inl (cI, 168, .inl mw)), (m4, .inl (cF, 288, .inr (.inr (.inl mf)))), (m5, .inl (cZ, 2, .inl mik)), (m6, .inl (cI, 200, .inl mtx)), (m7, .inl (cI, 56, .inl mwd)), (m8, .inl (cI, 3, .inl msz)), (m9, .inl (cI, 3, .inl mso)), (m10, .inl (cI, 24, .inl mpl))]) ⟨hx, hb, hml, hown, hts⟩ (c_X6_lookOf l D B adK adV cC cF cI cZ cM cS ma mst mwy mmk mwt m1 m2 m3 m4 mun m5 m6 mln mfi mbe mrs mrw mcl mdo mnu m7 m8 m9 m10 mvl mof mw mf mik mtx mwd msz mso mpl i k  r4 hc5) (cwV 2 hts gX6_look_X6_lookOf rfl rfl rfl (by decide +kernel) ⟨Nat.le_of_ble_eq_true rfl, Nat.le_of_ble_eq_true rfl⟩) (va_recv hK hP (ci := 6) (q0 := 0) rfl rfl) hK hP hD hS hB hE [0, 1, 2, 3, 4, 5, 6, 7, 8, 9, 10] rfl rfl rfl rfl rfl hl.1 rfl (Nat.le_of_ble_eq_true rfl) dX6_look_10 ⟨Nat.le_of_ble_eq_true rfl, Nat.le_of_ble_eq_true rfl⟩ (fun H locs hP hD hS => ?_)
    refine W.eq (g2 := F0 m 13 ls [.int r4]) rfl ?_
    refine lv_goto (tgt := 18) hx hb dX6_look_13 (by decide) ?_
    have h1 := Option.some.inj hf
    subst h1
    rw [hQ]
    exact W.iret (v := r4) hx hb hr (fun t ht hW => qEnd hP hS ht) hS.2.2 dX6_look_18
set_option maxRecDepth 100000 in
set_option maxHeartbeats 4000000 in
theorem c_X6_lift (l : Launch) (D : va_G) (B : Nat) (adK adV : Nat → Nat) (cC cF cI cZ cM cS : ClassId) (ma : Nat) (mst : Int32) (mwy : Int32) (mmk : Int32) (mwt : Int32) (m1 : Nat) (m2 : Nat) (m3 : Nat) (m4 : Nat) (mun : Int32) (m5 : Nat) (m6 : Nat) (mln : Int32) (mfi : Int32) (mbe : Int32) (mrs : Int32) (mrw : Int32) (mcl : Int32) (mdo : Int32) (mnu : Int32) (m7 : Nat) (m8 : Nat) (m9 : Nat) (m10 : Nat) (mvl : Nat → Int32) (mof : Nat → Int32) (mw : Nat → Int32) (mf : Nat → UInt32) (mik : Nat → Int32) (mtx : Nat → Int32) (mwd : Nat → Int32) (msz : Nat → Int32) (mso : Nat → Int32) (mpl : Nat → Int32) (i : Int32) (k : Int32) (zz : Int32 × (Nat → Int32)) (hf : f_X6_lift msz mpl i k = some zz) : Ct l yX6_lift wsX6_lift { frames := 3, cells := 0, slots := 0, locals := 70 } D B adK adV (tysX cC cF cI cZ cM cS) [.ref ma, .int i, .int k] [(ma, .inr (6, [.int mst, .int mwy, .int mmk, .int mwt, .ref m1, .ref m2, .ref m3, .ref m4, .int mun, .ref m5, .ref m6, .int mln, .int mfi, .int mbe, .int mrs, .int mrw, .int mcl, .int mdo, .int mnu, .ref m7, .ref m8, .ref m9, .ref m10])), (m1, .inl (cI, 24, .inl mvl)), (m2, .inl (cI, 96, .inl mof)), (m3, .inl (cI, 168, .inl mw)), (m4, .inl (cF, 288, .inr (.inr (.inl mf)))), (m5, .inl (cZ, 2, .inl mik)), (m6, .inl (cI, 200, .inl mtx)), (m7, .inl (cI, 56, .inl mwd)), (m8, .inl (cI, 3, .inl msz)), (m9, .inl (cI, 3, .inl mso)), (m10, .inl (cI, 24, .inl mpl))] [(ma, .inr (6, [.int mst, .int mwy, .int mmk, .int mwt, .ref m1, .ref m2, .ref m3, .ref m4, .int mun, .ref m5, .ref m6, .int mln, .int mfi, .int mbe, .int mrs, .int mrw, .int mcl, .int mdo, .int mnu, .ref m7, .ref m8, .ref m9, .ref m10])), (m1, .inl (cI, 24, .inl mvl)), (m2, .inl (cI, 96, .inl mof)), (m3, .inl (cI, 168, .inl mw)), (m4, .inl (cF, 288, .inr (.inr (.inl mf)))), (m5, .inl (cZ, 2, .inl mik)), (m6, .inl (cI, 200, .inl mtx)), (m7, .inl (cI, 56, .inl mwd)), (m8, .inl (cI, 3, .inl msz)), (m9, .inl (cI, 3, .inl mso)), (m10, .inl (cI, 24, .inl zz.2))] (some (.int zz.1)) := by
  refine Ct.ofW (cc := cX6_lift) (maxL := 4) (ret := (some .int)) (by decide) rfl (Nat.le_of_ble_eq_true rfl) ?_
  intro p e s m args below meth c hx hb hr hml hts hown hlocks hnm hK hE A Q hQ hB H locs ls hP hD hS hl
  have hl : lv_has ls 4 [(0, .ref ma), (1, .int i), (2, .int k)] := hl
  have w0 : ∀ w ∈ u_ws RX6 TX6 23, w ∈ wsX6_lift := by decide +kernel
  have w1 := hts (.fieldLink RX6 43 "MotionStatesModel" "places" "[I") (by decide +kernel)
  unfold f_X6_lift at hf
  refine lv_iload_n hx hb dX6_lift_0 rfl (lv_at hl 1 rfl) ?_
  obtain ⟨r1, hc2, hf⟩ := bd_inv hf
  refine xcS (As := [.int i]) (rest := []) (ws' := [(ma, .inr (6, [.int mst, .int mwy, .int mmk, .int mwt, .ref m1, .ref m2, .ref m3, .ref m4, .int mun, .ref m5, .ref m6, .int mln, .int mfi, .int mbe, .int mrs, .int mrw, .int mcl, .int mdo, .int mnu, .ref m7, .ref m8, .ref m9, .ref m10])), (m1, .inl (cI, 24, .inl mvl)), (m2, .inl (cI, 96, .inl mof)), (m3, .inl (cI, 168, .inl mw)), (m4, .inl (cF, 288, .inr (.inr (.inl mf)))), (m5, .inl (cZ, 2, .inl mik)), (m6, .inl (cI, 200, .inl mtx)), (m7, .inl (cI, 56, .inl mwd)), (m8, .inl (cI, 3, .inl msz)), (m9, .inl (cI, 3, .inl mso)), (m10, .inl (cI, 24, .inl mpl))]) ⟨hx, hb, hml, hown, hts⟩ (c_X6_isThird l D B adK adV cC cF cI cZ cM cS i  r1 hc2) (va_cwS 1 hts gX6_lift_X6_isThird rfl rfl rfl (by decide +kernel) ⟨Nat.le_of_ble_eq_true rfl, Nat.le_of_ble_eq_true rfl⟩) hK hP hD hS hB hE [] rfl rfl rfl rfl rfl hl.1 rfl (Nat.le_of_ble_eq_true rfl) dX6_lift_1 ⟨Nat.le_of_ble_eq_true rfl, Nat.le_of_ble_eq_true rfl⟩ (fun H locs hP hD hS => ?_)
  refine W.eq (g2 := F0 m 4 ls [.int r1]) rfl ?_
  refine lv_if_ne (tgt := 10) hx hb dX6_lift_4 (by decide) (fun c3 => ?_) (fun c3 => ?_)
  · have hf := if_n c3 hf
    refine lv_aload_n hx hb dX6_lift_10 rfl (lv_at hl 0 rfl) ?_
    refine lv_iload_n hx hb dX6_lift_11 rfl (lv_at hl 1 rfl) ?_
    refine lv_iload_n hx hb dX6_lift_12 rfl (lv_at hl 2 rfl) ?_
    obtain ⟨r4, hc5, hf⟩ := bd_inv hf
    refine xcV (As := [.int i, .int k]) (rest := []) (ws' := [(ma, .inr (6, [.int mst, .int mwy, .int mmk, .int mwt, .ref m1, .ref m2, .ref m3, .ref m4, .int mun, .ref m5, .ref m6, .int mln, .int mfi, .int mbe, .int mrs, .int mrw, .int mcl, .int mdo, .int mnu, .ref m7, .ref m8, .ref m9, .ref m10])), (m1, .inl (cI, 24, .inl mvl)), (m2, .inl (cI, 96, .inl mof)), (m3, .inl (cI, 168, .inl mw)), (m4, .inl (cF, 288, .inr (.inr (.inl mf)))), (m5, .inl (cZ, 2, .inl mik)), (m6, .inl (cI, 200, .inl mtx)), (m7, .inl (cI, 56, .inl mwd)), (m8, .inl (cI, 3, .inl msz)), (m9, .inl (cI, 3, .inl mso)), (m10, .inl (cI, 24, .inl mpl))]) ⟨hx, hb, hml, hown, hts⟩ (c_X6_lookOf l D B adK adV cC cF cI cZ cM cS ma mst mwy mmk mwt m1 m2 m3 m4 mun m5 m6 mln mfi mbe mrs mrw mcl mdo mnu m7 m8 m9 m10 mvl mof mw mf mik mtx mwd msz mso mpl i k  r4 hc5) (cwV 2 hts gX6_lift_X6_lookOf rfl rfl rfl (by decide +kernel) ⟨Nat.le_of_ble_eq_true rfl, Nat.le_of_ble_eq_true rfl⟩) (va_recv hK hP (ci := 6) (q0 := 0) rfl rfl) hK hP hD hS hB hE [0, 1, 2, 3, 4, 5, 6, 7, 8, 9, 10] rfl rfl rfl rfl rfl hl.1 rfl (Nat.le_of_ble_eq_true rfl) dX6_lift_13 ⟨Nat.le_of_ble_eq_true rfl, Nat.le_of_ble_eq_true rfl⟩ (fun H locs hP hD hS => ?_)
    refine W.eq (g2 := F0 m 16 ls [.int r4]) rfl ?_
    refine lv_istore_n (lv' := [(3, .int r4), (0, .ref ma), (1, .int i), (2, .int k)]) hx hb dX6_lift_16 rfl hl (by decide) rfl (fun ls hl => ?_)
    refine lv_iload_n hx hb dX6_lift_17 rfl (lv_at hl 0 rfl) ?_
    refine lv_if_lt (tgt := 33) hx hb dX6_lift_18 (by decide) (fun c6 => ?_) (fun c6 => ?_)
    · have hf := if_p c6 hf
      refine lv_iload_n hx hb dX6_lift_33 rfl (lv_at hl 0 rfl) ?_
      have h1 := Option.some.inj hf
      subst h1
      rw [hQ]
      exact W.iret (v := r4) hx hb hr (fun t ht hW => qEnd hP hS ht) hS.2.2 dX6_lift_34
    · have hf := if_n c6 hf
      refine lv_aload_n hx hb dX6_lift_21 rfl (lv_at hl 1 rfl) ?_
      refine va_get (D := D) (ci := 6) (v := .ref m10) (C := RX6) (T := TX6) (N := 23) hx hb hts w0 hown hK hP 0 rfl rfl 22 (by decide) w1 (fun _ h9 => h9) rfl dX6_lift_22 ?_
      refine lv_bipush (v := 8) hx hb dX6_lift_25 (by decide) ?_
      refine lv_iload_n hx hb dX6_lift_27 rfl (lv_at hl 2 rfl) ?_
      refine lv_imul hx hb dX6_lift_28 ?_
      refine lv_iload_n hx hb dX6_lift_29 rfl (lv_at hl 3 rfl) ?_
      refine lv_iadd hx hb dX6_lift_30 ?_
      refine lv_iconst (v := (-1)) hx hb dX6_lift_31 (by decide) ?_
      obtain ⟨g7, hf⟩ := gd_inv hf
      refine va_iast hx hb hK hP hD hS 10 2 rfl rfl g7 dX6_lift_32 (fun H locs hP hD hS => ?_)
      have hP : va_P D vwCl [(ma, .inr (6, [.int mst, .int mwy, .int mmk, .int mwt, .ref m1, .ref m2, .ref m3, .ref m4, .int mun, .ref m5, .ref m6, .int mln, .int mfi, .int mbe, .int mrs, .int mrw, .int mcl, .int mdo, .int mnu, .ref m7, .ref m8, .ref m9, .ref m10])), (m1, .inl (cI, 24, .inl mvl)), (m2, .inl (cI, 96, .inl mof)), (m3, .inl (cI, 168, .inl mw)), (m4, .inl (cF, 288, .inr (.inr (.inl mf)))), (m5, .inl (cZ, 2, .inl mik)), (m6, .inl (cI, 200, .inl mtx)), (m7, .inl (cI, 56, .inl mwd)), (m8, .inl (cI, 3, .inl msz)), (m9, .inl (cI, 3, .inl mso)), (m10, .inl (cI, 24, .inl (upd mpl ((((8 : Int32) * i) + k).toNatClampNeg) (-1))))] H := hP
      have hD : va_D A [(ma, .inr (6, [.int mst, .int mwy, .int mmk, .int mwt, .ref m1, .ref m2, .ref m3, .ref m4, .int mun, .ref m5, .ref m6, .int mln, .int mfi, .int mbe, .int mrs, .int mrw, .int mcl, .int mdo, .int mnu, .ref m7, .ref m8, .ref m9, .ref m10])), (m1, .inl (cI, 24, .inl mvl)), (m2, .inl (cI, 96, .inl mof)), (m3, .inl (cI, 168, .inl mw)), (m4, .inl (cF, 288, .inr (.inr (.inl mf)))), (m5, .inl (cZ, 2, .inl mik)), (m6, .inl (cI, 200, .inl mtx)), (m7, .inl (cI, 56, .inl mwd)), (m8, .inl (cI, 3, .inl msz)), (m9, .inl (cI, 3, .inl mso)), (m10, .inl (cI, 24, .inl (upd mpl ((((8 : Int32) * i) + k).toNatClampNeg) (-1))))] := hD
      refine lv_iload_n hx hb dX6_lift_33 rfl (lv_at hl 0 rfl) ?_
      have h1 := Option.some.inj hf
      subst h1
      rw [hQ]
      exact W.iret (v := r4) hx hb hr (fun t ht hW => qEnd hP hS ht) hS.2.2 dX6_lift_34
  · have hf := if_p c3 hf
    refine lv_bipush (v := (-2)) hx hb dX6_lift_7 (by decide) ?_
    have h1 := Option.some.inj hf
    subst h1
    rw [hQ]
    exact W.iret (v := (-2)) hx hb hr (fun t ht hW => qEnd hP hS ht) hS.2.2 dX6_lift_9
set_option maxRecDepth 100000 in
set_option maxHeartbeats 4000000 in
theorem c_X6_likeness (l : Launch) (D : va_G) (B : Nat) (adK adV : Nat → Nat) (cC cF cI cZ cM cS : ClassId) (ma : Nat) (mst : Int32) (mwy : Int32) (mmk : Int32) (mwt : Int32) (m1 : Nat) (m2 : Nat) (m3 : Nat) (m4 : Nat) (mun : Int32) (m5 : Nat) (m6 : Nat) (mln : Int32) (mfi : Int32) (mbe : Int32) (mrs : Int32) (mrw : Int32) (mcl : Int32) (mdo : Int32) (mnu : Int32) (m7 : Nat) (m8 : Nat) (m9 : Nat) (m10 : Nat) (mvl : Nat → Int32) (mof : Nat → Int32) (mw : Nat → Int32) (mf : Nat → UInt32) (mik : Nat → Int32) (mtx : Nat → Int32) (mwd : Nat → Int32) (msz : Nat → Int32) (mso : Nat → Int32) (mpl : Nat → Int32) (i : Int32) (j : Int32) (zz : Int32 × (Nat → Int32) × (Nat → Int32) × (Nat → Int32)) (hf : f_X6_likeness msz mso mpl i j = some zz) : Ct l yX6_likeness wsX6_likeness { frames := 2, cells := 0, slots := 0, locals := 45 } D B adK adV (tysX cC cF cI cZ cM cS) [.ref ma, .int i, .int j] [(ma, .inr (6, [.int mst, .int mwy, .int mmk, .int mwt, .ref m1, .ref m2, .ref m3, .ref m4, .int mun, .ref m5, .ref m6, .int mln, .int mfi, .int mbe, .int mrs, .int mrw, .int mcl, .int mdo, .int mnu, .ref m7, .ref m8, .ref m9, .ref m10])), (m1, .inl (cI, 24, .inl mvl)), (m2, .inl (cI, 96, .inl mof)), (m3, .inl (cI, 168, .inl mw)), (m4, .inl (cF, 288, .inr (.inr (.inl mf)))), (m5, .inl (cZ, 2, .inl mik)), (m6, .inl (cI, 200, .inl mtx)), (m7, .inl (cI, 56, .inl mwd)), (m8, .inl (cI, 3, .inl msz)), (m9, .inl (cI, 3, .inl mso)), (m10, .inl (cI, 24, .inl mpl))] [(ma, .inr (6, [.int mst, .int mwy, .int mmk, .int mwt, .ref m1, .ref m2, .ref m3, .ref m4, .int mun, .ref m5, .ref m6, .int mln, .int mfi, .int mbe, .int mrs, .int mrw, .int mcl, .int mdo, .int mnu, .ref m7, .ref m8, .ref m9, .ref m10])), (m1, .inl (cI, 24, .inl mvl)), (m2, .inl (cI, 96, .inl mof)), (m3, .inl (cI, 168, .inl mw)), (m4, .inl (cF, 288, .inr (.inr (.inl mf)))), (m5, .inl (cZ, 2, .inl mik)), (m6, .inl (cI, 200, .inl mtx)), (m7, .inl (cI, 56, .inl mwd)), (m8, .inl (cI, 3, .inl zz.2.1)), (m9, .inl (cI, 3, .inl zz.2.2.1)), (m10, .inl (cI, 24, .inl zz.2.2.2))] (some (.int zz.1)) := by
  refine Ct.ofW (cc := cX6_likeness) (maxL := 4) (ret := (some .int)) (by decide) rfl (Nat.le_of_ble_eq_true rfl) ?_
  intro p e s m args below meth c hx hb hr hml hts hown hlocks hnm hK hE A Q hQ hB H locs ls hP hD hS hl
  have hl : lv_has ls 4 [(0, .ref ma), (1, .int i), (2, .int j)] := hl
  have w0 : ∀ w ∈ u_ws RX6 TX6 23, w ∈ wsX6_likeness := by decide +kernel
  have w1 := hts (.fieldLink RX6 37 "MotionStatesModel" "sizes" "[I") (by decide +kernel)
  have w2 := hts (.fieldLink RX6 40 "MotionStatesModel" "sorts" "[I") (by decide +kernel)
  have w3 := hts (.fieldLink RX6 43 "MotionStatesModel" "places" "[I") (by decide +kernel)
  have L55 : ∀ (n : Nat) (x3_55 : Int32) (mpl_55 : Nat → Int32) (oo : Int32 × (Nat → Int32)), f_X6_likeness_L55 j i n x3_55 mpl_55 = some oo → ∀ (H : Heap) (locs : List Loc) (ls : Array Slot), va_P D vwCl [(ma, .inr (6, [.int mst, .int mwy, .int mmk, .int mwt, .ref m1, .ref m2, .ref m3, .ref m4, .int mun, .ref m5, .ref m6, .int mln, .int mfi, .int mbe, .int mrs, .int mrw, .int mcl, .int mdo, .int mnu, .ref m7, .ref m8, .ref m9, .ref m10])), (m1, .inl (cI, 24, .inl mvl)), (m2, .inl (cI, 96, .inl mof)), (m3, .inl (cI, 168, .inl mw)), (m4, .inl (cF, 288, .inr (.inr (.inl mf)))), (m5, .inl (cZ, 2, .inl mik)), (m6, .inl (cI, 200, .inl mtx)), (m7, .inl (cI, 56, .inl mwd)), (m8, .inl (cI, 3, .inl (upd msz i.toNatClampNeg (msz j.toNatClampNeg)))), (m9, .inl (cI, 3, .inl (upd mso i.toNatClampNeg (mso j.toNatClampNeg)))), (m10, .inl (cI, 24, .inl mpl_55))] H → va_D A [(ma, .inr (6, [.int mst, .int mwy, .int mmk, .int mwt, .ref m1, .ref m2, .ref m3, .ref m4, .int mun, .ref m5, .ref m6, .int mln, .int mfi, .int mbe, .int mrs, .int mrw, .int mcl, .int mdo, .int mnu, .ref m7, .ref m8, .ref m9, .ref m10])), (m1, .inl (cI, 24, .inl mvl)), (m2, .inl (cI, 96, .inl mof)), (m3, .inl (cI, 168, .inl mw)), (m4, .inl (cF, 288, .inr (.inr (.inl mf)))), (m5, .inl (cZ, 2, .inl mik)), (m6, .inl (cI, 200, .inl mtx)), (m7, .inl (cI, 56, .inl mwd)), (m8, .inl (cI, 3, .inl (upd msz i.toNatClampNeg (msz j.toNatClampNeg)))), (m9, .inl (cI, 3, .inl (upd mso i.toNatClampNeg (mso j.toNatClampNeg)))), (m10, .inl (cI, 24, .inl mpl_55))] → va_S A s.heap H locs → lv_has ls 4 [(3, .int x3_55), (0, .ref ma), (1, .int i), (2, .int j)] → (∀ (H : Heap) (locs : List Loc) (ls : Array Slot), va_P D vwCl [(ma, .inr (6, [.int mst, .int mwy, .int mmk, .int mwt, .ref m1, .ref m2, .ref m3, .ref m4, .int mun, .ref m5, .ref m6, .int mln, .int mfi, .int mbe, .int mrs, .int mrw, .int mcl, .int mdo, .int mnu, .ref m7, .ref m8, .ref m9, .ref m10])), (m1, .inl (cI, 24, .inl mvl)), (m2, .inl (cI, 96, .inl mof)), (m3, .inl (cI, 168, .inl mw)), (m4, .inl (cF, 288, .inr (.inr (.inl mf)))), (m5, .inl (cZ, 2, .inl mik)), (m6, .inl (cI, 200, .inl mtx)), (m7, .inl (cI, 56, .inl mwd)), (m8, .inl (cI, 3, .inl (upd msz i.toNatClampNeg (msz j.toNatClampNeg)))), (m9, .inl (cI, 3, .inl (upd mso i.toNatClampNeg (mso j.toNatClampNeg)))), (m10, .inl (cI, 24, .inl oo.2))] H → va_D A [(ma, .inr (6, [.int mst, .int mwy, .int mmk, .int mwt, .ref m1, .ref m2, .ref m3, .ref m4, .int mun, .ref m5, .ref m6, .int mln, .int mfi, .int mbe, .int mrs, .int mrw, .int mcl, .int mdo, .int mnu, .ref m7, .ref m8, .ref m9, .ref m10])), (m1, .inl (cI, 24, .inl mvl)), (m2, .inl (cI, 96, .inl mof)), (m3, .inl (cI, 168, .inl mw)), (m4, .inl (cF, 288, .inr (.inr (.inl mf)))), (m5, .inl (cZ, 2, .inl mik)), (m6, .inl (cI, 200, .inl mtx)), (m7, .inl (cI, 56, .inl mwd)), (m8, .inl (cI, 3, .inl (upd msz i.toNatClampNeg (msz j.toNatClampNeg)))), (m9, .inl (cI, 3, .inl (upd mso i.toNatClampNeg (mso j.toNatClampNeg)))), (m10, .inl (cI, 24, .inl oo.2))] → va_S A s.heap H locs → lv_has ls 4 [(3, .int oo.1), (0, .ref ma), (1, .int i), (2, .int j)] → W p l e { frames := 2, cells := 0, slots := 0, locals := 45 } s m args below meth c H locs 0 0 Q (F0 m 89 ls [])) → W p l e { frames := 2, cells := 0, slots := 0, locals := 45 } s m args below meth c H locs 0 0 Q (F0 m 55 ls []) := by
    intro n
    induction n with
    | zero => intro x3_55 mpl_55 oo hf; exact absurd hf (by simp [f_X6_likeness_L55])
    | succ n ih =>
      intro x3_55 mpl_55 oo hf H locs ls hP hD hS hl kk
      rw [f_X6_likeness_L55] at hf
      refine lv_iload_n hx hb dX6_likeness_55 rfl (lv_at hl 0 rfl) ?_
      refine lv_bipush (v := 8) hx hb dX6_likeness_56 (by decide) ?_
      refine lv_icmp_ge (tgt := 89) hx hb dX6_likeness_58 (by decide) (fun c13 => ?_) (fun c13 => ?_)
      · have hf := if_p c13 hf
        have h1 := Option.some.inj hf
        subst h1
        exact kk H locs ls hP hD hS (lv_sub hl [0, 1, 2, 3] rfl)
      · have hf := if_n c13 hf
        refine lv_aload_n hx hb dX6_likeness_61 rfl (lv_at hl 1 rfl) ?_
        refine va_get (D := D) (ci := 6) (v := .ref m10) (C := RX6) (T := TX6) (N := 23) hx hb hts w0 hown hK hP 0 rfl rfl 22 (by decide) w3 (fun _ h9 => h9) rfl dX6_likeness_62 ?_
        refine lv_bipush (v := 8) hx hb dX6_likeness_65 (by decide) ?_
        refine lv_iload_n hx hb dX6_likeness_67 rfl (lv_at hl 2 rfl) ?_
        refine lv_imul hx hb dX6_likeness_68 ?_
        refine lv_iload_n hx hb dX6_likeness_69 rfl (lv_at hl 0 rfl) ?_
        refine lv_iadd hx hb dX6_likeness_70 ?_
        refine lv_aload_n hx hb dX6_likeness_71 rfl (lv_at hl 1 rfl) ?_
        refine va_get (D := D) (ci := 6) (v := .ref m10) (C := RX6) (T := TX6) (N := 23) hx hb hts w0 hown hK hP 0 rfl rfl 22 (by decide) w3 (fun _ h9 => h9) rfl dX6_likeness_72 ?_
        refine lv_bipush (v := 8) hx hb dX6_likeness_75 (by decide) ?_
        refine lv_iload_n hx hb dX6_likeness_77 rfl (lv_at hl 3 rfl) ?_
        refine lv_imul hx hb dX6_likeness_78 ?_
        refine lv_iload_n hx hb dX6_likeness_79 rfl (lv_at hl 0 rfl) ?_
        refine lv_iadd hx hb dX6_likeness_80 ?_
        obtain ⟨g14, hf⟩ := gd_inv hf
        refine va_iald hx hb hK hP 10 2 rfl rfl g14 dX6_likeness_81 ?_
        obtain ⟨g15, hf⟩ := gd_inv hf
        refine va_iast hx hb hK hP hD hS 10 2 rfl rfl g15 dX6_likeness_82 (fun H locs hP hD hS => ?_)
        have hP : va_P D vwCl [(ma, .inr (6, [.int mst, .int mwy, .int mmk, .int mwt, .ref m1, .ref m2, .ref m3, .ref m4, .int mun, .ref m5, .ref m6, .int mln, .int mfi, .int mbe, .int mrs, .int mrw, .int mcl, .int mdo, .int mnu, .ref m7, .ref m8, .ref m9, .ref m10])), (m1, .inl (cI, 24, .inl mvl)), (m2, .inl (cI, 96, .inl mof)), (m3, .inl (cI, 168, .inl mw)), (m4, .inl (cF, 288, .inr (.inr (.inl mf)))), (m5, .inl (cZ, 2, .inl mik)), (m6, .inl (cI, 200, .inl mtx)), (m7, .inl (cI, 56, .inl mwd)), (m8, .inl (cI, 3, .inl (upd msz i.toNatClampNeg (msz j.toNatClampNeg)))), (m9, .inl (cI, 3, .inl (upd mso i.toNatClampNeg (mso j.toNatClampNeg)))), (m10, .inl (cI, 24, .inl (upd mpl_55 ((((8 : Int32) * i) + x3_55).toNatClampNeg) (mpl_55 ((((8 : Int32) * j) + x3_55).toNatClampNeg)))))] H := hP
        have hD : va_D A [(ma, .inr (6, [.int mst, .int mwy, .int mmk, .int mwt, .ref m1, .ref m2, .ref m3, .ref m4, .int mun, .ref m5, .ref m6, .int mln, .int mfi, .int mbe, .int mrs, .int mrw, .int mcl, .int mdo, .int mnu, .ref m7, .ref m8, .ref m9, .ref m10])), (m1, .inl (cI, 24, .inl mvl)), (m2, .inl (cI, 96, .inl mof)), (m3, .inl (cI, 168, .inl mw)), (m4, .inl (cF, 288, .inr (.inr (.inl mf)))), (m5, .inl (cZ, 2, .inl mik)), (m6, .inl (cI, 200, .inl mtx)), (m7, .inl (cI, 56, .inl mwd)), (m8, .inl (cI, 3, .inl (upd msz i.toNatClampNeg (msz j.toNatClampNeg)))), (m9, .inl (cI, 3, .inl (upd mso i.toNatClampNeg (mso j.toNatClampNeg)))), (m10, .inl (cI, 24, .inl (upd mpl_55 ((((8 : Int32) * i) + x3_55).toNatClampNeg) (mpl_55 ((((8 : Int32) * j) + x3_55).toNatClampNeg)))))] := hD
        refine lv_iinc (v := x3_55 + 1) (lv' := [(3, .int (x3_55 + 1)), (0, .ref ma), (1, .int i), (2, .int j)]) hx hb dX6_likeness_83 hl (k := 0) rfl rfl (by decide) rfl (fun ls hl => ?_)
        refine lv_goto (tgt := 55) hx hb dX6_likeness_86 (by decide) ?_
        exact ih (x3_55 + 1) (upd mpl_55 ((((8 : Int32) * i) + x3_55).toNatClampNeg) (mpl_55 ((((8 : Int32) * j) + x3_55).toNatClampNeg))) oo hf H locs ls hP hD hS (lv_sub hl [0, 1, 2, 3] rfl) kk
  unfold f_X6_likeness at hf
  refine lv_iload_n hx hb dX6_likeness_0 rfl (lv_at hl 1 rfl) ?_
  obtain ⟨r1, hc2, hf⟩ := bd_inv hf
  refine xcS (As := [.int i]) (rest := []) (ws' := [(ma, .inr (6, [.int mst, .int mwy, .int mmk, .int mwt, .ref m1, .ref m2, .ref m3, .ref m4, .int mun, .ref m5, .ref m6, .int mln, .int mfi, .int mbe, .int mrs, .int mrw, .int mcl, .int mdo, .int mnu, .ref m7, .ref m8, .ref m9, .ref m10])), (m1, .inl (cI, 24, .inl mvl)), (m2, .inl (cI, 96, .inl mof)), (m3, .inl (cI, 168, .inl mw)), (m4, .inl (cF, 288, .inr (.inr (.inl mf)))), (m5, .inl (cZ, 2, .inl mik)), (m6, .inl (cI, 200, .inl mtx)), (m7, .inl (cI, 56, .inl mwd)), (m8, .inl (cI, 3, .inl msz)), (m9, .inl (cI, 3, .inl mso)), (m10, .inl (cI, 24, .inl mpl))]) ⟨hx, hb, hml, hown, hts⟩ (c_X6_isThird l D B adK adV cC cF cI cZ cM cS i  r1 hc2) (va_cwS 1 hts gX6_likeness_X6_isThird rfl rfl rfl (by decide +kernel) ⟨Nat.le_of_ble_eq_true rfl, Nat.le_of_ble_eq_true rfl⟩) hK hP hD hS hB hE [] rfl rfl rfl rfl rfl hl.1 rfl (Nat.le_of_ble_eq_true rfl) dX6_likeness_1 ⟨Nat.le_of_ble_eq_true rfl, Nat.le_of_ble_eq_true rfl⟩ (fun H locs hP hD hS => ?_)
  refine W.eq (g2 := F0 m 4 ls [.int r1]) rfl ?_
  refine lv_if_eq (tgt := 14) hx hb dX6_likeness_4 (by decide) (fun c3 => ?_) (fun c3 => ?_)
  · have hf := if_p c3 hf
    refine lv_bipush (v := (-2)) hx hb dX6_likeness_14 (by decide) ?_
    have h1 := Option.some.inj hf
    subst h1
    rw [hQ]
    exact W.iret (v := (-2)) hx hb hr (fun t ht hW => qEnd hP hS ht) hS.2.2 dX6_likeness_16
  · have hf := if_n c3 hf
    refine lv_iload_n hx hb dX6_likeness_7 rfl (lv_at hl 2 rfl) ?_
    obtain ⟨r4, hc5, hf⟩ := bd_inv hf
    refine xcS (As := [.int j]) (rest := []) (ws' := [(ma, .inr (6, [.int mst, .int mwy, .int mmk, .int mwt, .ref m1, .ref m2, .ref m3, .ref m4, .int mun, .ref m5, .ref m6, .int mln, .int mfi, .int mbe, .int mrs, .int mrw, .int mcl, .int mdo, .int mnu, .ref m7, .ref m8, .ref m9, .ref m10])), (m1, .inl (cI, 24, .inl mvl)), (m2, .inl (cI, 96, .inl mof)), (m3, .inl (cI, 168, .inl mw)), (m4, .inl (cF, 288, .inr (.inr (.inl mf)))), (m5, .inl (cZ, 2, .inl mik)), (m6, .inl (cI, 200, .inl mtx)), (m7, .inl (cI, 56, .inl mwd)), (m8, .inl (cI, 3, .inl msz)), (m9, .inl (cI, 3, .inl mso)), (m10, .inl (cI, 24, .inl mpl))]) ⟨hx, hb, hml, hown, hts⟩ (c_X6_isThird l D B adK adV cC cF cI cZ cM cS j  r4 hc5) (va_cwS 1 hts gX6_likeness_X6_isThird rfl rfl rfl (by decide +kernel) ⟨Nat.le_of_ble_eq_true rfl, Nat.le_of_ble_eq_true rfl⟩) hK hP hD hS hB hE [] rfl rfl rfl rfl rfl hl.1 rfl (Nat.le_of_ble_eq_true rfl) dX6_likeness_8 ⟨Nat.le_of_ble_eq_true rfl, Nat.le_of_ble_eq_true rfl⟩ (fun H locs hP hD hS => ?_)
    refine W.eq (g2 := F0 m 11 ls [.int r4]) rfl ?_
    refine lv_if_ne (tgt := 17) hx hb dX6_likeness_11 (by decide) (fun c6 => ?_) (fun c6 => ?_)
    · have hf := if_n c6 hf
      refine lv_aload_n hx hb dX6_likeness_17 rfl (lv_at hl 0 rfl) ?_
      refine va_get (D := D) (ci := 6) (v := .ref m8) (C := RX6) (T := TX6) (N := 23) hx hb hts w0 hown hK hP 0 rfl rfl 20 (by decide) w1 (fun _ h9 => h9) rfl dX6_likeness_18 ?_
      refine lv_iload_n hx hb dX6_likeness_21 rfl (lv_at hl 2 rfl) ?_
      obtain ⟨g7, hf⟩ := gd_inv hf
      refine va_iald hx hb hK hP 8 2 rfl rfl g7 dX6_likeness_22 ?_
      refine lv_if_ge (tgt := 29) hx hb dX6_likeness_23 (by decide) (fun c8 => ?_) (fun c8 => ?_)
      · have hf := if_p c8 hf
        refine lv_aload_n hx hb dX6_likeness_29 rfl (lv_at hl 0 rfl) ?_
        refine va_get (D := D) (ci := 6) (v := .ref m8) (C := RX6) (T := TX6) (N := 23) hx hb hts w0 hown hK hP 0 rfl rfl 20 (by decide) w1 (fun _ h9 => h9) rfl dX6_likeness_30 ?_
        refine lv_iload_n hx hb dX6_likeness_33 rfl (lv_at hl 1 rfl) ?_
        refine lv_aload_n hx hb dX6_likeness_34 rfl (lv_at hl 0 rfl) ?_
        refine va_get (D := D) (ci := 6) (v := .ref m8) (C := RX6) (T := TX6) (N := 23) hx hb hts w0 hown hK hP 0 rfl rfl 20 (by decide) w1 (fun _ h9 => h9) rfl dX6_likeness_35 ?_
        refine lv_iload_n hx hb dX6_likeness_38 rfl (lv_at hl 2 rfl) ?_
        obtain ⟨g9, hf⟩ := gd_inv hf
        refine va_iald hx hb hK hP 8 2 rfl rfl g9 dX6_likeness_39 ?_
        obtain ⟨g10, hf⟩ := gd_inv hf
        refine va_iast hx hb hK hP hD hS 8 2 rfl rfl g10 dX6_likeness_40 (fun H locs hP hD hS => ?_)
        have hP : va_P D vwCl [(ma, .inr (6, [.int mst, .int mwy, .int mmk, .int mwt, .ref m1, .ref m2, .ref m3, .ref m4, .int mun, .ref m5, .ref m6, .int mln, .int mfi, .int mbe, .int mrs, .int mrw, .int mcl, .int mdo, .int mnu, .ref m7, .ref m8, .ref m9, .ref m10])), (m1, .inl (cI, 24, .inl mvl)), (m2, .inl (cI, 96, .inl mof)), (m3, .inl (cI, 168, .inl mw)), (m4, .inl (cF, 288, .inr (.inr (.inl mf)))), (m5, .inl (cZ, 2, .inl mik)), (m6, .inl (cI, 200, .inl mtx)), (m7, .inl (cI, 56, .inl mwd)), (m8, .inl (cI, 3, .inl (upd msz i.toNatClampNeg (msz j.toNatClampNeg)))), (m9, .inl (cI, 3, .inl mso)), (m10, .inl (cI, 24, .inl mpl))] H := hP
        have hD : va_D A [(ma, .inr (6, [.int mst, .int mwy, .int mmk, .int mwt, .ref m1, .ref m2, .ref m3, .ref m4, .int mun, .ref m5, .ref m6, .int mln, .int mfi, .int mbe, .int mrs, .int mrw, .int mcl, .int mdo, .int mnu, .ref m7, .ref m8, .ref m9, .ref m10])), (m1, .inl (cI, 24, .inl mvl)), (m2, .inl (cI, 96, .inl mof)), (m3, .inl (cI, 168, .inl mw)), (m4, .inl (cF, 288, .inr (.inr (.inl mf)))), (m5, .inl (cZ, 2, .inl mik)), (m6, .inl (cI, 200, .inl mtx)), (m7, .inl (cI, 56, .inl mwd)), (m8, .inl (cI, 3, .inl (upd msz i.toNatClampNeg (msz j.toNatClampNeg)))), (m9, .inl (cI, 3, .inl mso)), (m10, .inl (cI, 24, .inl mpl))] := hD
        refine lv_aload_n hx hb dX6_likeness_41 rfl (lv_at hl 0 rfl) ?_
        refine va_get (D := D) (ci := 6) (v := .ref m9) (C := RX6) (T := TX6) (N := 23) hx hb hts w0 hown hK hP 0 rfl rfl 21 (by decide) w2 (fun _ h9 => h9) rfl dX6_likeness_42 ?_
        refine lv_iload_n hx hb dX6_likeness_45 rfl (lv_at hl 1 rfl) ?_
        refine lv_aload_n hx hb dX6_likeness_46 rfl (lv_at hl 0 rfl) ?_
        refine va_get (D := D) (ci := 6) (v := .ref m9) (C := RX6) (T := TX6) (N := 23) hx hb hts w0 hown hK hP 0 rfl rfl 21 (by decide) w2 (fun _ h9 => h9) rfl dX6_likeness_47 ?_
        refine lv_iload_n hx hb dX6_likeness_50 rfl (lv_at hl 2 rfl) ?_
        obtain ⟨g11, hf⟩ := gd_inv hf
        refine va_iald hx hb hK hP 9 2 rfl rfl g11 dX6_likeness_51 ?_
        obtain ⟨g12, hf⟩ := gd_inv hf
        refine va_iast hx hb hK hP hD hS 9 2 rfl rfl g12 dX6_likeness_52 (fun H locs hP hD hS => ?_)
        have hP : va_P D vwCl [(ma, .inr (6, [.int mst, .int mwy, .int mmk, .int mwt, .ref m1, .ref m2, .ref m3, .ref m4, .int mun, .ref m5, .ref m6, .int mln, .int mfi, .int mbe, .int mrs, .int mrw, .int mcl, .int mdo, .int mnu, .ref m7, .ref m8, .ref m9, .ref m10])), (m1, .inl (cI, 24, .inl mvl)), (m2, .inl (cI, 96, .inl mof)), (m3, .inl (cI, 168, .inl mw)), (m4, .inl (cF, 288, .inr (.inr (.inl mf)))), (m5, .inl (cZ, 2, .inl mik)), (m6, .inl (cI, 200, .inl mtx)), (m7, .inl (cI, 56, .inl mwd)), (m8, .inl (cI, 3, .inl (upd msz i.toNatClampNeg (msz j.toNatClampNeg)))), (m9, .inl (cI, 3, .inl (upd mso i.toNatClampNeg (mso j.toNatClampNeg)))), (m10, .inl (cI, 24, .inl mpl))] H := hP
        have hD : va_D A [(ma, .inr (6, [.int mst, .int mwy, .int mmk, .int mwt, .ref m1, .ref m2, .ref m3, .ref m4, .int mun, .ref m5, .ref m6, .int mln, .int mfi, .int mbe, .int mrs, .int mrw, .int mcl, .int mdo, .int mnu, .ref m7, .ref m8, .ref m9, .ref m10])), (m1, .inl (cI, 24, .inl mvl)), (m2, .inl (cI, 96, .inl mof)), (m3, .inl (cI, 168, .inl mw)), (m4, .inl (cF, 288, .inr (.inr (.inl mf)))), (m5, .inl (cZ, 2, .inl mik)), (m6, .inl (cI, 200, .inl mtx)), (m7, .inl (cI, 56, .inl mwd)), (m8, .inl (cI, 3, .inl (upd msz i.toNatClampNeg (msz j.toNatClampNeg)))), (m9, .inl (cI, 3, .inl (upd mso i.toNatClampNeg (mso j.toNatClampNeg)))), (m10, .inl (cI, 24, .inl mpl))] := hD
        refine lv_iconst (v := 0) hx hb dX6_likeness_53 (by decide) ?_
        refine lv_istore_n (lv' := [(3, .int 0), (0, .ref ma), (1, .int i), (2, .int j)]) hx hb dX6_likeness_54 rfl hl (by decide) rfl (fun ls hl => ?_)
        obtain ⟨⟨q16, q17⟩, hq19, hf⟩ := bd_inv hf
        refine L55 1000 0 mpl (q16, q17) hq19 H locs ls hP hD hS (lv_sub hl [0, 1, 2, 3] rfl) (fun H locs ls hP hD hS hl => ?_)
        have hP : va_P D vwCl [(ma, .inr (6, [.int mst, .int mwy, .int mmk, .int mwt, .ref m1, .ref m2, .ref m3, .ref m4, .int mun, .ref m5, .ref m6, .int mln, .int mfi, .int mbe, .int mrs, .int mrw, .int mcl, .int mdo, .int mnu, .ref m7, .ref m8, .ref m9, .ref m10])), (m1, .inl (cI, 24, .inl mvl)), (m2, .inl (cI, 96, .inl mof)), (m3, .inl (cI, 168, .inl mw)), (m4, .inl (cF, 288, .inr (.inr (.inl mf)))), (m5, .inl (cZ, 2, .inl mik)), (m6, .inl (cI, 200, .inl mtx)), (m7, .inl (cI, 56, .inl mwd)), (m8, .inl (cI, 3, .inl (upd msz i.toNatClampNeg (msz j.toNatClampNeg)))), (m9, .inl (cI, 3, .inl (upd mso i.toNatClampNeg (mso j.toNatClampNeg)))), (m10, .inl (cI, 24, .inl q17))] H := hP
        have hD : va_D A [(ma, .inr (6, [.int mst, .int mwy, .int mmk, .int mwt, .ref m1, .ref m2, .ref m3, .ref m4, .int mun, .ref m5, .ref m6, .int mln, .int mfi, .int mbe, .int mrs, .int mrw, .int mcl, .int mdo, .int mnu, .ref m7, .ref m8, .ref m9, .ref m10])), (m1, .inl (cI, 24, .inl mvl)), (m2, .inl (cI, 96, .inl mof)), (m3, .inl (cI, 168, .inl mw)), (m4, .inl (cF, 288, .inr (.inr (.inl mf)))), (m5, .inl (cZ, 2, .inl mik)), (m6, .inl (cI, 200, .inl mtx)), (m7, .inl (cI, 56, .inl mwd)), (m8, .inl (cI, 3, .inl (upd msz i.toNatClampNeg (msz j.toNatClampNeg)))), (m9, .inl (cI, 3, .inl (upd mso i.toNatClampNeg (mso j.toNatClampNeg)))), (m10, .inl (cI, 24, .inl q17))] := hD
        have hl : lv_has ls 4 [(3, .int q16), (0, .ref ma), (1, .int i), (2, .int j)] := hl
        refine lv_aload_n hx hb dX6_likeness_89 rfl (lv_at hl 1 rfl) ?_
        refine va_get (D := D) (ci := 6) (v := .ref m8) (C := RX6) (T := TX6) (N := 23) hx hb hts w0 hown hK hP 0 rfl rfl 20 (by decide) w1 (fun _ h9 => h9) rfl dX6_likeness_90 ?_
        refine lv_iload_n hx hb dX6_likeness_93 rfl (lv_at hl 2 rfl) ?_
        obtain ⟨g18, hf⟩ := gd_inv hf
        refine va_iald hx hb hK hP 8 2 rfl rfl g18 dX6_likeness_94 ?_
        have h1 := Option.some.inj hf
        subst h1
        rw [hQ]
        exact W.iret (v := ((upd msz i.toNatClampNeg (msz j.toNatClampNeg)) i.toNatClampNeg)) hx hb hr (fun t ht hW => qEnd hP hS ht) hS.2.2 dX6_likeness_95
      · have hf := if_n c8 hf
        refine lv_bipush (v := (-11)) hx hb dX6_likeness_26 (by decide) ?_
        have h1 := Option.some.inj hf
        subst h1
        rw [hQ]
        exact W.iret (v := (-11)) hx hb hr (fun t ht hW => qEnd hP hS ht) hS.2.2 dX6_likeness_28
    · have hf := if_p c6 hf
      refine lv_bipush (v := (-2)) hx hb dX6_likeness_14 (by decide) ?_
      have h1 := Option.some.inj hf
      subst h1
      rw [hQ]
      exact W.iret (v := (-2)) hx hb hr (fun t ht hW => qEnd hP hS ht) hS.2.2 dX6_likeness_16
set_option maxRecDepth 100000 in
set_option maxHeartbeats 4000000 in
theorem c_X6_hand (l : Launch) (D : va_G) (B : Nat) (adK adV : Nat → Nat) (cC cF cI cZ cM cS : ClassId) (ma : Nat) (mst : Int32) (mwy : Int32) (mmk : Int32) (mwt : Int32) (m1 : Nat) (m2 : Nat) (m3 : Nat) (m4 : Nat) (mun : Int32) (m5 : Nat) (m6 : Nat) (mln : Int32) (mfi : Int32) (mbe : Int32) (mrs : Int32) (mrw : Int32) (mcl : Int32) (mdo : Int32) (mnu : Int32) (m7 : Nat) (m8 : Nat) (m9 : Nat) (m10 : Nat) (mvl : Nat → Int32) (mof : Nat → Int32) (mw : Nat → Int32) (mf : Nat → UInt32) (mik : Nat → Int32) (mtx : Nat → Int32) (mwd : Nat → Int32) (msz : Nat → Int32) (mso : Nat → Int32) (mpl : Nat → Int32) (i : Int32) (k : Int32) (j : Int32) (v : Int32) (zz : Int32 × (Nat → Int32)) (hf : f_X6_hand msz mso mpl i k j v = some zz) : Ct l yX6_hand wsX6_hand { frames := 2, cells := 0, slots := 0, locals := 47 } D B adK adV (tysX cC cF cI cZ cM cS) [.ref ma, .int i, .int k, .int j, .int v] [(ma, .inr (6, [.int mst, .int mwy, .int mmk, .int mwt, .ref m1, .ref m2, .ref m3, .ref m4, .int mun, .ref m5, .ref m6, .int mln, .int mfi, .int mbe, .int mrs, .int mrw, .int mcl, .int mdo, .int mnu, .ref m7, .ref m8, .ref m9, .ref m10])), (m1, .inl (cI, 24, .inl mvl)), (m2, .inl (cI, 96, .inl mof)), (m3, .inl (cI, 168, .inl mw)), (m4, .inl (cF, 288, .inr (.inr (.inl mf)))), (m5, .inl (cZ, 2, .inl mik)), (m6, .inl (cI, 200, .inl mtx)), (m7, .inl (cI, 56, .inl mwd)), (m8, .inl (cI, 3, .inl msz)), (m9, .inl (cI, 3, .inl mso)), (m10, .inl (cI, 24, .inl mpl))] [(ma, .inr (6, [.int mst, .int mwy, .int mmk, .int mwt, .ref m1, .ref m2, .ref m3, .ref m4, .int mun, .ref m5, .ref m6, .int mln, .int mfi, .int mbe, .int mrs, .int mrw, .int mcl, .int mdo, .int mnu, .ref m7, .ref m8, .ref m9, .ref m10])), (m1, .inl (cI, 24, .inl mvl)), (m2, .inl (cI, 96, .inl mof)), (m3, .inl (cI, 168, .inl mw)), (m4, .inl (cF, 288, .inr (.inr (.inl mf)))), (m5, .inl (cZ, 2, .inl mik)), (m6, .inl (cI, 200, .inl mtx)), (m7, .inl (cI, 56, .inl mwd)), (m8, .inl (cI, 3, .inl msz)), (m9, .inl (cI, 3, .inl mso)), (m10, .inl (cI, 24, .inl zz.2))] (some (.int zz.1)) := by
  refine Ct.ofW (cc := cX6_hand) (maxL := 6) (ret := (some .int)) (by decide) rfl (Nat.le_of_ble_eq_true rfl) ?_
  intro p e s m args below meth c hx hb hr hml hts hown hlocks hnm hK hE A Q hQ hB H locs ls hP hD hS hl
  have hl : lv_has ls 6 [(0, .ref ma), (1, .int i), (2, .int k), (3, .int j), (4, .int v)] := hl
  have w0 : ∀ w ∈ u_ws RX6 TX6 23, w ∈ wsX6_hand := by decide +kernel
  have w1 := hts (.fieldLink RX6 37 "MotionStatesModel" "sizes" "[I") (by decide +kernel)
  have w2 := hts (.fieldLink RX6 43 "MotionStatesModel" "places" "[I") (by decide +kernel)
  unfold f_X6_hand at hf
  refine lv_iload_n hx hb dX6_hand_0 rfl (lv_at hl 1 rfl) ?_
  obtain ⟨r1, hc2, hf⟩ := bd_inv hf
  refine xcS (As := [.int i]) (rest := []) (ws' := [(ma, .inr (6, [.int mst, .int mwy, .int mmk, .int mwt, .ref m1, .ref m2, .ref m3, .ref m4, .int mun, .ref m5, .ref m6, .int mln, .int mfi, .int mbe, .int mrs, .int mrw, .int mcl, .int mdo, .int mnu, .ref m7, .ref m8, .ref m9, .ref m10])), (m1, .inl (cI, 24, .inl mvl)), (m2, .inl (cI, 96, .inl mof)), (m3, .inl (cI, 168, .inl mw)), (m4, .inl (cF, 288, .inr (.inr (.inl mf)))), (m5, .inl (cZ, 2, .inl mik)), (m6, .inl (cI, 200, .inl mtx)), (m7, .inl (cI, 56, .inl mwd)), (m8, .inl (cI, 3, .inl msz)), (m9, .inl (cI, 3, .inl mso)), (m10, .inl (cI, 24, .inl mpl))]) ⟨hx, hb, hml, hown, hts⟩ (c_X6_isThird l D B adK adV cC cF cI cZ cM cS i  r1 hc2) (va_cwS 1 hts gX6_hand_X6_isThird rfl rfl rfl (by decide +kernel) ⟨Nat.le_of_ble_eq_true rfl, Nat.le_of_ble_eq_true rfl⟩) hK hP hD hS hB hE [] rfl rfl rfl rfl rfl hl.1 rfl (Nat.le_of_ble_eq_true rfl) dX6_hand_1 ⟨Nat.le_of_ble_eq_true rfl, Nat.le_of_ble_eq_true rfl⟩ (fun H locs hP hD hS => ?_)
  refine W.eq (g2 := F0 m 4 ls [.int r1]) rfl ?_
  refine lv_if_eq (tgt := 14) hx hb dX6_hand_4 (by decide) (fun c3 => ?_) (fun c3 => ?_)
  · have hf := if_p c3 hf
    refine lv_bipush (v := (-2)) hx hb dX6_hand_14 (by decide) ?_
    have h1 := Option.some.inj hf
    subst h1
    rw [hQ]
    exact W.iret (v := (-2)) hx hb hr (fun t ht hW => qEnd hP hS ht) hS.2.2 dX6_hand_16
  · have hf := if_n c3 hf
    refine lv_iload_n hx hb dX6_hand_7 rfl (lv_at hl 3 rfl) ?_
    obtain ⟨r4, hc5, hf⟩ := bd_inv hf
    refine xcS (As := [.int j]) (rest := []) (ws' := [(ma, .inr (6, [.int mst, .int mwy, .int mmk, .int mwt, .ref m1, .ref m2, .ref m3, .ref m4, .int mun, .ref m5, .ref m6, .int mln, .int mfi, .int mbe, .int mrs, .int mrw, .int mcl, .int mdo, .int mnu, .ref m7, .ref m8, .ref m9, .ref m10])), (m1, .inl (cI, 24, .inl mvl)), (m2, .inl (cI, 96, .inl mof)), (m3, .inl (cI, 168, .inl mw)), (m4, .inl (cF, 288, .inr (.inr (.inl mf)))), (m5, .inl (cZ, 2, .inl mik)), (m6, .inl (cI, 200, .inl mtx)), (m7, .inl (cI, 56, .inl mwd)), (m8, .inl (cI, 3, .inl msz)), (m9, .inl (cI, 3, .inl mso)), (m10, .inl (cI, 24, .inl mpl))]) ⟨hx, hb, hml, hown, hts⟩ (c_X6_isThird l D B adK adV cC cF cI cZ cM cS j  r4 hc5) (va_cwS 1 hts gX6_hand_X6_isThird rfl rfl rfl (by decide +kernel) ⟨Nat.le_of_ble_eq_true rfl, Nat.le_of_ble_eq_true rfl⟩) hK hP hD hS hB hE [] rfl rfl rfl rfl rfl hl.1 rfl (Nat.le_of_ble_eq_true rfl) dX6_hand_8 ⟨Nat.le_of_ble_eq_true rfl, Nat.le_of_ble_eq_true rfl⟩ (fun H locs hP hD hS => ?_)
    refine W.eq (g2 := F0 m 11 ls [.int r4]) rfl ?_
    refine lv_if_ne (tgt := 17) hx hb dX6_hand_11 (by decide) (fun c6 => ?_) (fun c6 => ?_)
    · have hf := if_n c6 hf
      refine lv_aload_n hx hb dX6_hand_17 rfl (lv_at hl 0 rfl) ?_
      refine va_get (D := D) (ci := 6) (v := .ref m8) (C := RX6) (T := TX6) (N := 23) hx hb hts w0 hown hK hP 0 rfl rfl 20 (by decide) w1 (fun _ h9 => h9) rfl dX6_hand_18 ?_
      refine lv_iload_n hx hb dX6_hand_21 rfl (lv_at hl 1 rfl) ?_
      obtain ⟨g7, hf⟩ := gd_inv hf
      refine va_iald hx hb hK hP 8 2 rfl rfl g7 dX6_hand_22 ?_
      refine lv_if_lt (tgt := 35) hx hb dX6_hand_23 (by decide) (fun c8 => ?_) (fun c8 => ?_)
      · have hf := if_p c8 hf
        refine lv_bipush (v := (-11)) hx hb dX6_hand_35 (by decide) ?_
        have h1 := Option.some.inj hf
        subst h1
        rw [hQ]
        exact W.iret (v := (-11)) hx hb hr (fun t ht hW => qEnd hP hS ht) hS.2.2 dX6_hand_37
      · have hf := if_n c8 hf
        refine lv_aload_n hx hb dX6_hand_26 rfl (lv_at hl 0 rfl) ?_
        refine va_get (D := D) (ci := 6) (v := .ref m8) (C := RX6) (T := TX6) (N := 23) hx hb hts w0 hown hK hP 0 rfl rfl 20 (by decide) w1 (fun _ h9 => h9) rfl dX6_hand_27 ?_
        refine lv_iload_n hx hb dX6_hand_30 rfl (lv_at hl 3 rfl) ?_
        obtain ⟨g9, hf⟩ := gd_inv hf
        refine va_iald hx hb hK hP 8 2 rfl rfl g9 dX6_hand_31 ?_
        refine lv_if_ge (tgt := 38) hx hb dX6_hand_32 (by decide) (fun c10 => ?_) (fun c10 => ?_)
        · have hf := if_p c10 hf
          refine lv_aload_n hx hb dX6_hand_38 rfl (lv_at hl 0 rfl) ?_
          refine lv_iload_n hx hb dX6_hand_39 rfl (lv_at hl 1 rfl) ?_
          refine lv_iload_n hx hb dX6_hand_40 rfl (lv_at hl 2 rfl) ?_
          obtain ⟨r11, hc12, hf⟩ := bd_inv hf
          refine xcV (As := [.int i, .int k]) (rest := []) (ws' := [(ma, .inr (6, [.int mst, .int mwy, .int mmk, .int mwt, .ref m1, .ref m2, .ref m3, .ref m4, .int mun, .ref m5, .ref m6, .int mln, .int mfi, .int mbe, .int mrs, .int mrw, .int mcl, .int mdo, .int mnu, .ref m7, .ref m8, .ref m9, .ref m10])), (m1, .inl (cI, 24, .inl mvl)), (m2, .inl (cI, 96, .inl mof)), (m3, .inl (cI, 168, .inl mw)), (m4, .inl (cF, 288, .inr (.inr (.inl mf)))), (m5, .inl (cZ, 2, .inl mik)), (m6, .inl (cI, 200, .inl mtx)), (m7, .inl (cI, 56, .inl mwd)), (m8, .inl (cI, 3, .inl msz)), (m9, .inl (cI, 3, .inl mso)), (m10, .inl (cI, 24, .inl mpl))]) ⟨hx, hb, hml, hown, hts⟩ (c_X6_against l D B adK adV cC cF cI cZ cM cS ma mst mwy mmk mwt m1 m2 m3 m4 mun m5 m6 mln mfi mbe mrs mrw mcl mdo mnu m7 m8 m9 m10 mvl mof mw mf mik mtx mwd msz mso mpl i k  r11 hc12) (cwV 2 hts gX6_hand_X6_against rfl rfl rfl (by decide +kernel) ⟨Nat.le_of_ble_eq_true rfl, Nat.le_of_ble_eq_true rfl⟩) (va_recv hK hP (ci := 6) (q0 := 0) rfl rfl) hK hP hD hS hB hE [0, 1, 2, 3, 4, 5, 6, 7, 8, 9, 10] rfl rfl rfl rfl rfl hl.1 rfl (Nat.le_of_ble_eq_true rfl) dX6_hand_41 ⟨Nat.le_of_ble_eq_true rfl, Nat.le_of_ble_eq_true rfl⟩ (fun H locs hP hD hS => ?_)
          refine W.eq (g2 := F0 m 44 ls [.int r11]) rfl ?_
          refine lv_if_ne (tgt := 57) hx hb dX6_hand_44 (by decide) (fun c13 => ?_) (fun c13 => ?_)
          · have hf := if_n c13 hf
            refine lv_bipush (v := (-13)) hx hb dX6_hand_57 (by decide) ?_
            have h1 := Option.some.inj hf
            subst h1
            rw [hQ]
            exact W.iret (v := (-13)) hx hb hr (fun t ht hW => qEnd hP hS ht) hS.2.2 dX6_hand_59
          · have hf := if_p c13 hf
            refine lv_aload_n hx hb dX6_hand_47 rfl (lv_at hl 0 rfl) ?_
            refine lv_iload_n hx hb dX6_hand_48 rfl (lv_at hl 3 rfl) ?_
            refine lv_iload hx hb dX6_hand_49 (lv_at hl 4 rfl) ?_
            obtain ⟨r14, hc15, hf⟩ := bd_inv hf
            refine xcV (As := [.int j, .int v]) (rest := []) (ws' := [(ma, .inr (6, [.int mst, .int mwy, .int mmk, .int mwt, .ref m1, .ref m2, .ref m3, .ref m4, .int mun, .ref m5, .ref m6, .int mln, .int mfi, .int mbe, .int mrs, .int mrw, .int mcl, .int mdo, .int mnu, .ref m7, .ref m8, .ref m9, .ref m10])), (m1, .inl (cI, 24, .inl mvl)), (m2, .inl (cI, 96, .inl mof)), (m3, .inl (cI, 168, .inl mw)), (m4, .inl (cF, 288, .inr (.inr (.inl mf)))), (m5, .inl (cZ, 2, .inl mik)), (m6, .inl (cI, 200, .inl mtx)), (m7, .inl (cI, 56, .inl mwd)), (m8, .inl (cI, 3, .inl msz)), (m9, .inl (cI, 3, .inl mso)), (m10, .inl (cI, 24, .inl mpl))]) ⟨hx, hb, hml, hown, hts⟩ (c_X6_against l D B adK adV cC cF cI cZ cM cS ma mst mwy mmk mwt m1 m2 m3 m4 mun m5 m6 mln mfi mbe mrs mrw mcl mdo mnu m7 m8 m9 m10 mvl mof mw mf mik mtx mwd msz mso mpl j v  r14 hc15) (cwV 2 hts gX6_hand_X6_against rfl rfl rfl (by decide +kernel) ⟨Nat.le_of_ble_eq_true rfl, Nat.le_of_ble_eq_true rfl⟩) (va_recv hK hP (ci := 6) (q0 := 0) rfl rfl) hK hP hD hS hB hE [0, 1, 2, 3, 4, 5, 6, 7, 8, 9, 10] rfl rfl rfl rfl rfl hl.1 rfl (Nat.le_of_ble_eq_true rfl) dX6_hand_51 ⟨Nat.le_of_ble_eq_true rfl, Nat.le_of_ble_eq_true rfl⟩ (fun H locs hP hD hS => ?_)
            refine W.eq (g2 := F0 m 54 ls [.int r14]) rfl ?_
            refine lv_if_eq (tgt := 60) hx hb dX6_hand_54 (by decide) (fun c16 => ?_) (fun c16 => ?_)
            · have hf := if_p c16 hf
              refine lv_aload_n hx hb dX6_hand_60 rfl (lv_at hl 0 rfl) ?_
              refine va_get (D := D) (ci := 6) (v := .ref m10) (C := RX6) (T := TX6) (N := 23) hx hb hts w0 hown hK hP 0 rfl rfl 22 (by decide) w2 (fun _ h9 => h9) rfl dX6_hand_61 ?_
              refine lv_bipush (v := 8) hx hb dX6_hand_64 (by decide) ?_
              refine lv_iload_n hx hb dX6_hand_66 rfl (lv_at hl 1 rfl) ?_
              refine lv_imul hx hb dX6_hand_67 ?_
              refine lv_iload_n hx hb dX6_hand_68 rfl (lv_at hl 2 rfl) ?_
              refine lv_iadd hx hb dX6_hand_69 ?_
              obtain ⟨g17, hf⟩ := gd_inv hf
              refine va_iald hx hb hK hP 10 2 rfl rfl g17 dX6_hand_70 ?_
              refine lv_istore (lv' := [(5, .int (mpl ((((8 : Int32) * i) + k).toNatClampNeg))), (0, .ref ma), (1, .int i), (2, .int k), (3, .int j), (4, .int v)]) hx hb dX6_hand_71 hl (by decide) rfl (fun ls hl => ?_)
              refine lv_iload hx hb dX6_hand_73 (lv_at hl 0 rfl) ?_
              refine lv_iconst (v := (-1)) hx hb dX6_hand_75 (by decide) ?_
              refine lv_icmp_ne (tgt := 82) hx hb dX6_hand_76 (by decide) (fun c18 => ?_) (fun c18 => ?_)
              · have hf := if_n c18 hf
                refine lv_aload_n hx hb dX6_hand_82 rfl (lv_at hl 1 rfl) ?_
                refine lv_iload_n hx hb dX6_hand_83 rfl (lv_at hl 4 rfl) ?_
                refine lv_iload hx hb dX6_hand_84 (lv_at hl 0 rfl) ?_
                refine lv_sipush (v := 1000) hx hb dX6_hand_86 (by decide) ?_
                refine lv_icmp_ge (tgt := 96) hx hb dX6_hand_89 (by decide) (fun c19 => ?_) (fun c19 => ?_)
                · have hf := if_p c19 hf
                  refine lv_iconst (v := 2) hx hb dX6_hand_96 (by decide) ?_
                  obtain ⟨r20, hc21, hf⟩ := bd_inv hf
                  refine xcV (As := [.int j, .int 2]) (rest := []) (ws' := [(ma, .inr (6, [.int mst, .int mwy, .int mmk, .int mwt, .ref m1, .ref m2, .ref m3, .ref m4, .int mun, .ref m5, .ref m6, .int mln, .int mfi, .int mbe, .int mrs, .int mrw, .int mcl, .int mdo, .int mnu, .ref m7, .ref m8, .ref m9, .ref m10])), (m1, .inl (cI, 24, .inl mvl)), (m2, .inl (cI, 96, .inl mof)), (m3, .inl (cI, 168, .inl mw)), (m4, .inl (cF, 288, .inr (.inr (.inl mf)))), (m5, .inl (cZ, 2, .inl mik)), (m6, .inl (cI, 200, .inl mtx)), (m7, .inl (cI, 56, .inl mwd)), (m8, .inl (cI, 3, .inl msz)), (m9, .inl (cI, 3, .inl mso)), (m10, .inl (cI, 24, .inl mpl))]) ⟨hx, hb, hml, hown, hts⟩ (c_X6_isOther l D B adK adV cC cF cI cZ cM cS ma mst mwy mmk mwt m1 m2 m3 m4 mun m5 m6 mln mfi mbe mrs mrw mcl mdo mnu m7 m8 m9 m10 mvl mof mw mf mik mtx mwd msz mso mpl j 2  r20 hc21) (cwV 2 hts gX6_hand_X6_isOther rfl rfl rfl (by decide +kernel) ⟨Nat.le_of_ble_eq_true rfl, Nat.le_of_ble_eq_true rfl⟩) (va_recv hK hP (ci := 6) (q0 := 0) rfl rfl) hK hP hD hS hB hE [0, 1, 2, 3, 4, 5, 6, 7, 8, 9, 10] rfl rfl rfl rfl rfl hl.1 rfl (Nat.le_of_ble_eq_true rfl) dX6_hand_97 ⟨Nat.le_of_ble_eq_true rfl, Nat.le_of_ble_eq_true rfl⟩ (fun H locs hP hD hS => ?_)
                  refine W.eq (g2 := F0 m 100 ls [.int r20]) rfl ?_
                  refine lv_if_eq (tgt := 106) hx hb dX6_hand_100 (by decide) (fun c22 => ?_) (fun c22 => ?_)
                  · have hf := if_p c22 hf
                    refine lv_aload_n hx hb dX6_hand_106 rfl (lv_at hl 1 rfl) ?_
                    refine va_get (D := D) (ci := 6) (v := .ref m10) (C := RX6) (T := TX6) (N := 23) hx hb hts w0 hown hK hP 0 rfl rfl 22 (by decide) w2 (fun _ h9 => h9) rfl dX6_hand_107 ?_
                    refine lv_bipush (v := 8) hx hb dX6_hand_110 (by decide) ?_
                    refine lv_iload_n hx hb dX6_hand_112 rfl (lv_at hl 4 rfl) ?_
                    refine lv_imul hx hb dX6_hand_113 ?_
                    refine lv_iload hx hb dX6_hand_114 (lv_at hl 5 rfl) ?_
                    refine lv_iadd hx hb dX6_hand_116 ?_
                    refine lv_iload hx hb dX6_hand_117 (lv_at hl 0 rfl) ?_
                    obtain ⟨g23, hf⟩ := gd_inv hf
                    refine va_iast hx hb hK hP hD hS 10 2 rfl rfl g23 dX6_hand_119 (fun H locs hP hD hS => ?_)
                    have hP : va_P D vwCl [(ma, .inr (6, [.int mst, .int mwy, .int mmk, .int mwt, .ref m1, .ref m2, .ref m3, .ref m4, .int mun, .ref m5, .ref m6, .int mln, .int mfi, .int mbe, .int mrs, .int mrw, .int mcl, .int mdo, .int mnu, .ref m7, .ref m8, .ref m9, .ref m10])), (m1, .inl (cI, 24, .inl mvl)), (m2, .inl (cI, 96, .inl mof)), (m3, .inl (cI, 168, .inl mw)), (m4, .inl (cF, 288, .inr (.inr (.inl mf)))), (m5, .inl (cZ, 2, .inl mik)), (m6, .inl (cI, 200, .inl mtx)), (m7, .inl (cI, 56, .inl mwd)), (m8, .inl (cI, 3, .inl msz)), (m9, .inl (cI, 3, .inl mso)), (m10, .inl (cI, 24, .inl (upd mpl ((((8 : Int32) * j) + v).toNatClampNeg) (mpl ((((8 : Int32) * i) + k).toNatClampNeg)))))] H := hP
                    have hD : va_D A [(ma, .inr (6, [.int mst, .int mwy, .int mmk, .int mwt, .ref m1, .ref m2, .ref m3, .ref m4, .int mun, .ref m5, .ref m6, .int mln, .int mfi, .int mbe, .int mrs, .int mrw, .int mcl, .int mdo, .int mnu, .ref m7, .ref m8, .ref m9, .ref m10])), (m1, .inl (cI, 24, .inl mvl)), (m2, .inl (cI, 96, .inl mof)), (m3, .inl (cI, 168, .inl mw)), (m4, .inl (cF, 288, .inr (.inr (.inl mf)))), (m5, .inl (cZ, 2, .inl mik)), (m6, .inl (cI, 200, .inl mtx)), (m7, .inl (cI, 56, .inl mwd)), (m8, .inl (cI, 3, .inl msz)), (m9, .inl (cI, 3, .inl mso)), (m10, .inl (cI, 24, .inl (upd mpl ((((8 : Int32) * j) + v).toNatClampNeg) (mpl ((((8 : Int32) * i) + k).toNatClampNeg)))))] := hD
                    refine lv_iconst (v := 1) hx hb dX6_hand_120 (by decide) ?_
                    have h1 := Option.some.inj hf
                    subst h1
                    rw [hQ]
                    exact W.iret (v := 1) hx hb hr (fun t ht hW => qEnd hP hS ht) hS.2.2 dX6_hand_121
                  · have hf := if_n c22 hf
                    refine lv_bipush (v := (-14)) hx hb dX6_hand_103 (by decide) ?_
                    have h1 := Option.some.inj hf
                    subst h1
                    rw [hQ]
                    exact W.iret (v := (-14)) hx hb hr (fun t ht hW => qEnd hP hS ht) hS.2.2 dX6_hand_105
                · have hf := if_n c19 hf
                  refine lv_iconst (v := 1) hx hb dX6_hand_92 (by decide) ?_
                  refine lv_goto (tgt := 97) hx hb dX6_hand_93 (by decide) ?_
                  obtain ⟨r24, hc25, hf⟩ := bd_inv hf
                  refine xcV (As := [.int j, .int 1]) (rest := []) (ws' := [(ma, .inr (6, [.int mst, .int mwy, .int mmk, .int mwt, .ref m1, .ref m2, .ref m3, .ref m4, .int mun, .ref m5, .ref m6, .int mln, .int mfi, .int mbe, .int mrs, .int mrw, .int mcl, .int mdo, .int mnu, .ref m7, .ref m8, .ref m9, .ref m10])), (m1, .inl (cI, 24, .inl mvl)), (m2, .inl (cI, 96, .inl mof)), (m3, .inl (cI, 168, .inl mw)), (m4, .inl (cF, 288, .inr (.inr (.inl mf)))), (m5, .inl (cZ, 2, .inl mik)), (m6, .inl (cI, 200, .inl mtx)), (m7, .inl (cI, 56, .inl mwd)), (m8, .inl (cI, 3, .inl msz)), (m9, .inl (cI, 3, .inl mso)), (m10, .inl (cI, 24, .inl mpl))]) ⟨hx, hb, hml, hown, hts⟩ (c_X6_isOther l D B adK adV cC cF cI cZ cM cS ma mst mwy mmk mwt m1 m2 m3 m4 mun m5 m6 mln mfi mbe mrs mrw mcl mdo mnu m7 m8 m9 m10 mvl mof mw mf mik mtx mwd msz mso mpl j 1  r24 hc25) (cwV 2 hts gX6_hand_X6_isOther rfl rfl rfl (by decide +kernel) ⟨Nat.le_of_ble_eq_true rfl, Nat.le_of_ble_eq_true rfl⟩) (va_recv hK hP (ci := 6) (q0 := 0) rfl rfl) hK hP hD hS hB hE [0, 1, 2, 3, 4, 5, 6, 7, 8, 9, 10] rfl rfl rfl rfl rfl hl.1 rfl (Nat.le_of_ble_eq_true rfl) dX6_hand_97 ⟨Nat.le_of_ble_eq_true rfl, Nat.le_of_ble_eq_true rfl⟩ (fun H locs hP hD hS => ?_)
                  refine W.eq (g2 := F0 m 100 ls [.int r24]) rfl ?_
                  refine lv_if_eq (tgt := 106) hx hb dX6_hand_100 (by decide) (fun c26 => ?_) (fun c26 => ?_)
                  · have hf := if_p c26 hf
                    refine lv_aload_n hx hb dX6_hand_106 rfl (lv_at hl 1 rfl) ?_
                    refine va_get (D := D) (ci := 6) (v := .ref m10) (C := RX6) (T := TX6) (N := 23) hx hb hts w0 hown hK hP 0 rfl rfl 22 (by decide) w2 (fun _ h9 => h9) rfl dX6_hand_107 ?_
                    refine lv_bipush (v := 8) hx hb dX6_hand_110 (by decide) ?_
                    refine lv_iload_n hx hb dX6_hand_112 rfl (lv_at hl 4 rfl) ?_
                    refine lv_imul hx hb dX6_hand_113 ?_
                    refine lv_iload hx hb dX6_hand_114 (lv_at hl 5 rfl) ?_
                    refine lv_iadd hx hb dX6_hand_116 ?_
                    refine lv_iload hx hb dX6_hand_117 (lv_at hl 0 rfl) ?_
                    obtain ⟨g27, hf⟩ := gd_inv hf
                    refine va_iast hx hb hK hP hD hS 10 2 rfl rfl g27 dX6_hand_119 (fun H locs hP hD hS => ?_)
                    have hP : va_P D vwCl [(ma, .inr (6, [.int mst, .int mwy, .int mmk, .int mwt, .ref m1, .ref m2, .ref m3, .ref m4, .int mun, .ref m5, .ref m6, .int mln, .int mfi, .int mbe, .int mrs, .int mrw, .int mcl, .int mdo, .int mnu, .ref m7, .ref m8, .ref m9, .ref m10])), (m1, .inl (cI, 24, .inl mvl)), (m2, .inl (cI, 96, .inl mof)), (m3, .inl (cI, 168, .inl mw)), (m4, .inl (cF, 288, .inr (.inr (.inl mf)))), (m5, .inl (cZ, 2, .inl mik)), (m6, .inl (cI, 200, .inl mtx)), (m7, .inl (cI, 56, .inl mwd)), (m8, .inl (cI, 3, .inl msz)), (m9, .inl (cI, 3, .inl mso)), (m10, .inl (cI, 24, .inl (upd mpl ((((8 : Int32) * j) + v).toNatClampNeg) (mpl ((((8 : Int32) * i) + k).toNatClampNeg)))))] H := hP
                    have hD : va_D A [(ma, .inr (6, [.int mst, .int mwy, .int mmk, .int mwt, .ref m1, .ref m2, .ref m3, .ref m4, .int mun, .ref m5, .ref m6, .int mln, .int mfi, .int mbe, .int mrs, .int mrw, .int mcl, .int mdo, .int mnu, .ref m7, .ref m8, .ref m9, .ref m10])), (m1, .inl (cI, 24, .inl mvl)), (m2, .inl (cI, 96, .inl mof)), (m3, .inl (cI, 168, .inl mw)), (m4, .inl (cF, 288, .inr (.inr (.inl mf)))), (m5, .inl (cZ, 2, .inl mik)), (m6, .inl (cI, 200, .inl mtx)), (m7, .inl (cI, 56, .inl mwd)), (m8, .inl (cI, 3, .inl msz)), (m9, .inl (cI, 3, .inl mso)), (m10, .inl (cI, 24, .inl (upd mpl ((((8 : Int32) * j) + v).toNatClampNeg) (mpl ((((8 : Int32) * i) + k).toNatClampNeg)))))] := hD
                    refine lv_iconst (v := 1) hx hb dX6_hand_120 (by decide) ?_
                    have h1 := Option.some.inj hf
                    subst h1
                    rw [hQ]
                    exact W.iret (v := 1) hx hb hr (fun t ht hW => qEnd hP hS ht) hS.2.2 dX6_hand_121
                  · have hf := if_n c26 hf
                    refine lv_bipush (v := (-14)) hx hb dX6_hand_103 (by decide) ?_
                    have h1 := Option.some.inj hf
                    subst h1
                    rw [hQ]
                    exact W.iret (v := (-14)) hx hb hr (fun t ht hW => qEnd hP hS ht) hS.2.2 dX6_hand_105
              · have hf := if_p c18 hf
                refine lv_bipush (v := (-15)) hx hb dX6_hand_79 (by decide) ?_
                have h1 := Option.some.inj hf
                subst h1
                rw [hQ]
                exact W.iret (v := (-15)) hx hb hr (fun t ht hW => qEnd hP hS ht) hS.2.2 dX6_hand_81
            · have hf := if_n c16 hf
              refine lv_bipush (v := (-13)) hx hb dX6_hand_57 (by decide) ?_
              have h1 := Option.some.inj hf
              subst h1
              rw [hQ]
              exact W.iret (v := (-13)) hx hb hr (fun t ht hW => qEnd hP hS ht) hS.2.2 dX6_hand_59
        · have hf := if_n c10 hf
          refine lv_bipush (v := (-11)) hx hb dX6_hand_35 (by decide) ?_
          have h1 := Option.some.inj hf
          subst h1
          rw [hQ]
          exact W.iret (v := (-11)) hx hb hr (fun t ht hW => qEnd hP hS ht) hS.2.2 dX6_hand_37
    · have hf := if_p c6 hf
      refine lv_bipush (v := (-2)) hx hb dX6_hand_14 (by decide) ?_
      have h1 := Option.some.inj hf
      subst h1
      rw [hQ]
      exact W.iret (v := (-2)) hx hb hr (fun t ht hW => qEnd hP hS ht) hS.2.2 dX6_hand_16
set_option maxRecDepth 100000 in
set_option maxHeartbeats 4000000 in
theorem c_X6_drop (l : Launch) (D : va_G) (B : Nat) (adK adV : Nat → Nat) (cC cF cI cZ cM cS : ClassId) (ma : Nat) (mst : Int32) (mwy : Int32) (mmk : Int32) (mwt : Int32) (m1 : Nat) (m2 : Nat) (m3 : Nat) (m4 : Nat) (mun : Int32) (m5 : Nat) (m6 : Nat) (mln : Int32) (mfi : Int32) (mbe : Int32) (mrs : Int32) (mrw : Int32) (mcl : Int32) (mdo : Int32) (mnu : Int32) (m7 : Nat) (m8 : Nat) (m9 : Nat) (m10 : Nat) (mvl : Nat → Int32) (mof : Nat → Int32) (mw : Nat → Int32) (mf : Nat → UInt32) (mik : Nat → Int32) (mtx : Nat → Int32) (mwd : Nat → Int32) (msz : Nat → Int32) (mso : Nat → Int32) (mpl : Nat → Int32) (i : Int32) (zz : Int32 × (Nat → Int32)) (hf : f_X6_drop msz i = some zz) : Ct l yX6_drop wsX6_drop { frames := 2, cells := 0, slots := 0, locals := 45 } D B adK adV (tysX cC cF cI cZ cM cS) [.ref ma, .int i] [(ma, .inr (6, [.int mst, .int mwy, .int mmk, .int mwt, .ref m1, .ref m2, .ref m3, .ref m4, .int mun, .ref m5, .ref m6, .int mln, .int mfi, .int mbe, .int mrs, .int mrw, .int mcl, .int mdo, .int mnu, .ref m7, .ref m8, .ref m9, .ref m10])), (m1, .inl (cI, 24, .inl mvl)), (m2, .inl (cI, 96, .inl mof)), (m3, .inl (cI, 168, .inl mw)), (m4, .inl (cF, 288, .inr (.inr (.inl mf)))), (m5, .inl (cZ, 2, .inl mik)), (m6, .inl (cI, 200, .inl mtx)), (m7, .inl (cI, 56, .inl mwd)), (m8, .inl (cI, 3, .inl msz)), (m9, .inl (cI, 3, .inl mso)), (m10, .inl (cI, 24, .inl mpl))] [(ma, .inr (6, [.int mst, .int mwy, .int mmk, .int mwt, .ref m1, .ref m2, .ref m3, .ref m4, .int mun, .ref m5, .ref m6, .int mln, .int mfi, .int mbe, .int mrs, .int mrw, .int mcl, .int mdo, .int mnu, .ref m7, .ref m8, .ref m9, .ref m10])), (m1, .inl (cI, 24, .inl mvl)), (m2, .inl (cI, 96, .inl mof)), (m3, .inl (cI, 168, .inl mw)), (m4, .inl (cF, 288, .inr (.inr (.inl mf)))), (m5, .inl (cZ, 2, .inl mik)), (m6, .inl (cI, 200, .inl mtx)), (m7, .inl (cI, 56, .inl mwd)), (m8, .inl (cI, 3, .inl zz.2)), (m9, .inl (cI, 3, .inl mso)), (m10, .inl (cI, 24, .inl mpl))] (some (.int zz.1)) := by
  refine Ct.ofW (cc := cX6_drop) (maxL := 3) (ret := (some .int)) (by decide) rfl (Nat.le_of_ble_eq_true rfl) ?_
  intro p e s m args below meth c hx hb hr hml hts hown hlocks hnm hK hE A Q hQ hB H locs ls hP hD hS hl
  have hl : lv_has ls 3 [(0, .ref ma), (1, .int i)] := hl
  have w0 : ∀ w ∈ u_ws RX6 TX6 23, w ∈ wsX6_drop := by decide +kernel
  have w1 := hts (.fieldLink RX6 37 "MotionStatesModel" "sizes" "[I") (by decide +kernel)
  unfold f_X6_drop at hf
  refine lv_iload_n hx hb dX6_drop_0 rfl (lv_at hl 1 rfl) ?_
  obtain ⟨r1, hc2, hf⟩ := bd_inv hf
  refine xcS (As := [.int i]) (rest := []) (ws' := [(ma, .inr (6, [.int mst, .int mwy, .int mmk, .int mwt, .ref m1, .ref m2, .ref m3, .ref m4, .int mun, .ref m5, .ref m6, .int mln, .int mfi, .int mbe, .int mrs, .int mrw, .int mcl, .int mdo, .int mnu, .ref m7, .ref m8, .ref m9, .ref m10])), (m1, .inl (cI, 24, .inl mvl)), (m2, .inl (cI, 96, .inl mof)), (m3, .inl (cI, 168, .inl mw)), (m4, .inl (cF, 288, .inr (.inr (.inl mf)))), (m5, .inl (cZ, 2, .inl mik)), (m6, .inl (cI, 200, .inl mtx)), (m7, .inl (cI, 56, .inl mwd)), (m8, .inl (cI, 3, .inl msz)), (m9, .inl (cI, 3, .inl mso)), (m10, .inl (cI, 24, .inl mpl))]) ⟨hx, hb, hml, hown, hts⟩ (c_X6_isThird l D B adK adV cC cF cI cZ cM cS i  r1 hc2) (va_cwS 1 hts gX6_drop_X6_isThird rfl rfl rfl (by decide +kernel) ⟨Nat.le_of_ble_eq_true rfl, Nat.le_of_ble_eq_true rfl⟩) hK hP hD hS hB hE [] rfl rfl rfl rfl rfl hl.1 rfl (Nat.le_of_ble_eq_true rfl) dX6_drop_1 ⟨Nat.le_of_ble_eq_true rfl, Nat.le_of_ble_eq_true rfl⟩ (fun H locs hP hD hS => ?_)
  refine W.eq (g2 := F0 m 4 ls [.int r1]) rfl ?_
  refine lv_if_ne (tgt := 10) hx hb dX6_drop_4 (by decide) (fun c3 => ?_) (fun c3 => ?_)
  · have hf := if_n c3 hf
    refine lv_aload_n hx hb dX6_drop_10 rfl (lv_at hl 0 rfl) ?_
    refine va_get (D := D) (ci := 6) (v := .ref m8) (C := RX6) (T := TX6) (N := 23) hx hb hts w0 hown hK hP 0 rfl rfl 20 (by decide) w1 (fun _ h9 => h9) rfl dX6_drop_11 ?_
    refine lv_iload_n hx hb dX6_drop_14 rfl (lv_at hl 1 rfl) ?_
    obtain ⟨g4, hf⟩ := gd_inv hf
    refine va_iald hx hb hK hP 8 2 rfl rfl g4 dX6_drop_15 ?_
    refine lv_istore_n (lv' := [(2, .int (msz i.toNatClampNeg)), (0, .ref ma), (1, .int i)]) hx hb dX6_drop_16 rfl hl (by decide) rfl (fun ls hl => ?_)
    refine lv_aload_n hx hb dX6_drop_17 rfl (lv_at hl 1 rfl) ?_
    refine va_get (D := D) (ci := 6) (v := .ref m8) (C := RX6) (T := TX6) (N := 23) hx hb hts w0 hown hK hP 0 rfl rfl 20 (by decide) w1 (fun _ h9 => h9) rfl dX6_drop_18 ?_
    refine lv_iload_n hx hb dX6_drop_21 rfl (lv_at hl 2 rfl) ?_
    refine lv_iconst (v := (-1)) hx hb dX6_drop_22 (by decide) ?_
    obtain ⟨g5, hf⟩ := gd_inv hf
    refine va_iast hx hb hK hP hD hS 8 2 rfl rfl g5 dX6_drop_23 (fun H locs hP hD hS => ?_)
    have hP : va_P D vwCl [(ma, .inr (6, [.int mst, .int mwy, .int mmk, .int mwt, .ref m1, .ref m2, .ref m3, .ref m4, .int mun, .ref m5, .ref m6, .int mln, .int mfi, .int mbe, .int mrs, .int mrw, .int mcl, .int mdo, .int mnu, .ref m7, .ref m8, .ref m9, .ref m10])), (m1, .inl (cI, 24, .inl mvl)), (m2, .inl (cI, 96, .inl mof)), (m3, .inl (cI, 168, .inl mw)), (m4, .inl (cF, 288, .inr (.inr (.inl mf)))), (m5, .inl (cZ, 2, .inl mik)), (m6, .inl (cI, 200, .inl mtx)), (m7, .inl (cI, 56, .inl mwd)), (m8, .inl (cI, 3, .inl (upd msz i.toNatClampNeg (-1)))), (m9, .inl (cI, 3, .inl mso)), (m10, .inl (cI, 24, .inl mpl))] H := hP
    have hD : va_D A [(ma, .inr (6, [.int mst, .int mwy, .int mmk, .int mwt, .ref m1, .ref m2, .ref m3, .ref m4, .int mun, .ref m5, .ref m6, .int mln, .int mfi, .int mbe, .int mrs, .int mrw, .int mcl, .int mdo, .int mnu, .ref m7, .ref m8, .ref m9, .ref m10])), (m1, .inl (cI, 24, .inl mvl)), (m2, .inl (cI, 96, .inl mof)), (m3, .inl (cI, 168, .inl mw)), (m4, .inl (cF, 288, .inr (.inr (.inl mf)))), (m5, .inl (cZ, 2, .inl mik)), (m6, .inl (cI, 200, .inl mtx)), (m7, .inl (cI, 56, .inl mwd)), (m8, .inl (cI, 3, .inl (upd msz i.toNatClampNeg (-1)))), (m9, .inl (cI, 3, .inl mso)), (m10, .inl (cI, 24, .inl mpl))] := hD
    refine lv_iload_n hx hb dX6_drop_24 rfl (lv_at hl 0 rfl) ?_
    refine lv_if_ge (tgt := 33) hx hb dX6_drop_25 (by decide) (fun c6 => ?_) (fun c6 => ?_)
    · have hf := if_p c6 hf
      refine lv_iload_n hx hb dX6_drop_33 rfl (lv_at hl 0 rfl) ?_
      have h1 := Option.some.inj hf
      subst h1
      rw [hQ]
      exact W.iret (v := (msz i.toNatClampNeg)) hx hb hr (fun t ht hW => qEnd hP hS ht) hS.2.2 dX6_drop_34
    · have hf := if_n c6 hf
      refine lv_bipush (v := (-11)) hx hb dX6_drop_28 (by decide) ?_
      refine lv_goto (tgt := 34) hx hb dX6_drop_30 (by decide) ?_
      have h1 := Option.some.inj hf
      subst h1
      rw [hQ]
      exact W.iret (v := (-11)) hx hb hr (fun t ht hW => qEnd hP hS ht) hS.2.2 dX6_drop_34
  · have hf := if_p c3 hf
    refine lv_bipush (v := (-2)) hx hb dX6_drop_7 (by decide) ?_
    have h1 := Option.some.inj hf
    subst h1
    rw [hQ]
    exact W.iret (v := (-2)) hx hb hr (fun t ht hW => qEnd hP hS ht) hS.2.2 dX6_drop_9
set_option maxRecDepth 100000 in
set_option maxHeartbeats 4000000 in
theorem c_X6_things (l : Launch) (D : va_G) (B : Nat) (adK adV : Nat → Nat) (cC cF cI cZ cM cS : ClassId) (ma : Nat) (mst : Int32) (mwy : Int32) (mmk : Int32) (mwt : Int32) (m1 : Nat) (m2 : Nat) (m3 : Nat) (m4 : Nat) (mun : Int32) (m5 : Nat) (m6 : Nat) (mln : Int32) (mfi : Int32) (mbe : Int32) (mrs : Int32) (mrw : Int32) (mcl : Int32) (mdo : Int32) (mnu : Int32) (m7 : Nat) (m8 : Nat) (m9 : Nat) (m10 : Nat) (mvl : Nat → Int32) (mof : Nat → Int32) (mw : Nat → Int32) (mf : Nat → UInt32) (mik : Nat → Int32) (mtx : Nat → Int32) (mwd : Nat → Int32) (msz : Nat → Int32) (mso : Nat → Int32) (mpl : Nat → Int32) (zz : Int32) (hf : f_X6_things msz mpl = some zz) : Ct l yX6_things wsX6_things { frames := 0, cells := 0, slots := 0, locals := 0 } D B adK adV (tysX cC cF cI cZ cM cS) [.ref ma] [(ma, .inr (6, [.int mst, .int mwy, .int mmk, .int mwt, .ref m1, .ref m2, .ref m3, .ref m4, .int mun, .ref m5, .ref m6, .int mln, .int mfi, .int mbe, .int mrs, .int mrw, .int mcl, .int mdo, .int mnu, .ref m7, .ref m8, .ref m9, .ref m10])), (m1, .inl (cI, 24, .inl mvl)), (m2, .inl (cI, 96, .inl mof)), (m3, .inl (cI, 168, .inl mw)), (m4, .inl (cF, 288, .inr (.inr (.inl mf)))), (m5, .inl (cZ, 2, .inl mik)), (m6, .inl (cI, 200, .inl mtx)), (m7, .inl (cI, 56, .inl mwd)), (m8, .inl (cI, 3, .inl msz)), (m9, .inl (cI, 3, .inl mso)), (m10, .inl (cI, 24, .inl mpl))] [(ma, .inr (6, [.int mst, .int mwy, .int mmk, .int mwt, .ref m1, .ref m2, .ref m3, .ref m4, .int mun, .ref m5, .ref m6, .int mln, .int mfi, .int mbe, .int mrs, .int mrw, .int mcl, .int mdo, .int mnu, .ref m7, .ref m8, .ref m9, .ref m10])), (m1, .inl (cI, 24, .inl mvl)), (m2, .inl (cI, 96, .inl mof)), (m3, .inl (cI, 168, .inl mw)), (m4, .inl (cF, 288, .inr (.inr (.inl mf)))), (m5, .inl (cZ, 2, .inl mik)), (m6, .inl (cI, 200, .inl mtx)), (m7, .inl (cI, 56, .inl mwd)), (m8, .inl (cI, 3, .inl msz)), (m9, .inl (cI, 3, .inl mso)), (m10, .inl (cI, 24, .inl mpl))] (some (.int zz)) := by
  refine Ct.ofW (cc := cX6_things) (maxL := 4) (ret := (some .int)) (by decide) rfl (Nat.le_of_ble_eq_true rfl) ?_
  intro p e s m args below meth c hx hb hr hml hts hown hlocks hnm hK hE A Q hQ hB H locs ls hP hD hS hl
  have hl : lv_has ls 4 [(0, .ref ma)] := hl
  have w0 : ∀ w ∈ u_ws RX6 TX6 23, w ∈ wsX6_things := by decide +kernel
  have w1 := hts (.fieldLink RX6 37 "MotionStatesModel" "sizes" "[I") (by decide +kernel)
  have w2 := hts (.fieldLink RX6 43 "MotionStatesModel" "places" "[I") (by decide +kernel)
  have L11 : ∀ (n : Nat) (x3_11 : Int32) (x1_11 : Int32) (x2_11 : Int32) (oo : Int32 × Int32 × Int32), f_X6_things_L11 msz mpl n x3_11 x1_11 x2_11 = some oo → ∀ (H : Heap) (locs : List Loc) (ls : Array Slot), va_P D vwCl [(ma, .inr (6, [.int mst, .int mwy, .int mmk, .int mwt, .ref m1, .ref m2, .ref m3, .ref m4, .int mun, .ref m5, .ref m6, .int mln, .int mfi, .int mbe, .int mrs, .int mrw, .int mcl, .int mdo, .int mnu, .ref m7, .ref m8, .ref m9, .ref m10])), (m1, .inl (cI, 24, .inl mvl)), (m2, .inl (cI, 96, .inl mof)), (m3, .inl (cI, 168, .inl mw)), (m4, .inl (cF, 288, .inr (.inr (.inl mf)))), (m5, .inl (cZ, 2, .inl mik)), (m6, .inl (cI, 200, .inl mtx)), (m7, .inl (cI, 56, .inl mwd)), (m8, .inl (cI, 3, .inl msz)), (m9, .inl (cI, 3, .inl mso)), (m10, .inl (cI, 24, .inl mpl))] H → va_D A [(ma, .inr (6, [.int mst, .int mwy, .int mmk, .int mwt, .ref m1, .ref m2, .ref m3, .ref m4, .int mun, .ref m5, .ref m6, .int mln, .int mfi, .int mbe, .int mrs, .int mrw, .int mcl, .int mdo, .int mnu, .ref m7, .ref m8, .ref m9, .ref m10])), (m1, .inl (cI, 24, .inl mvl)), (m2, .inl (cI, 96, .inl mof)), (m3, .inl (cI, 168, .inl mw)), (m4, .inl (cF, 288, .inr (.inr (.inl mf)))), (m5, .inl (cZ, 2, .inl mik)), (m6, .inl (cI, 200, .inl mtx)), (m7, .inl (cI, 56, .inl mwd)), (m8, .inl (cI, 3, .inl msz)), (m9, .inl (cI, 3, .inl mso)), (m10, .inl (cI, 24, .inl mpl))] → va_S A s.heap H locs → lv_has ls 4 [(3, .int x3_11), (2, .int x2_11), (1, .int x1_11), (0, .ref ma)] → (∀ (H : Heap) (locs : List Loc) (ls : Array Slot), va_P D vwCl [(ma, .inr (6, [.int mst, .int mwy, .int mmk, .int mwt, .ref m1, .ref m2, .ref m3, .ref m4, .int mun, .ref m5, .ref m6, .int mln, .int mfi, .int mbe, .int mrs, .int mrw, .int mcl, .int mdo, .int mnu, .ref m7, .ref m8, .ref m9, .ref m10])), (m1, .inl (cI, 24, .inl mvl)), (m2, .inl (cI, 96, .inl mof)), (m3, .inl (cI, 168, .inl mw)), (m4, .inl (cF, 288, .inr (.inr (.inl mf)))), (m5, .inl (cZ, 2, .inl mik)), (m6, .inl (cI, 200, .inl mtx)), (m7, .inl (cI, 56, .inl mwd)), (m8, .inl (cI, 3, .inl msz)), (m9, .inl (cI, 3, .inl mso)), (m10, .inl (cI, 24, .inl mpl))] H → va_D A [(ma, .inr (6, [.int mst, .int mwy, .int mmk, .int mwt, .ref m1, .ref m2, .ref m3, .ref m4, .int mun, .ref m5, .ref m6, .int mln, .int mfi, .int mbe, .int mrs, .int mrw, .int mcl, .int mdo, .int mnu, .ref m7, .ref m8, .ref m9, .ref m10])), (m1, .inl (cI, 24, .inl mvl)), (m2, .inl (cI, 96, .inl mof)), (m3, .inl (cI, 168, .inl mw)), (m4, .inl (cF, 288, .inr (.inr (.inl mf)))), (m5, .inl (cZ, 2, .inl mik)), (m6, .inl (cI, 200, .inl mtx)), (m7, .inl (cI, 56, .inl mwd)), (m8, .inl (cI, 3, .inl msz)), (m9, .inl (cI, 3, .inl mso)), (m10, .inl (cI, 24, .inl mpl))] → va_S A s.heap H locs → lv_has ls 4 [(3, .int oo.1), (2, .int oo.2.1), (1, .int oo.2.2), (0, .ref ma)] → W p l e { frames := 0, cells := 0, slots := 0, locals := 0 } s m args below meth c H locs 0 0 Q (F0 m 50 ls [])) → W p l e { frames := 0, cells := 0, slots := 0, locals := 0 } s m args below meth c H locs 0 0 Q (F0 m 11 ls []) := by
    intro n
    induction n with
    | zero => intro x3_11 x1_11 x2_11 oo hf; exact absurd hf (by simp [f_X6_things_L11])
    | succ n ih =>
      intro x3_11 x1_11 x2_11 oo hf H locs ls hP hD hS hl kk
      rw [f_X6_things_L11] at hf
      refine lv_iload_n hx hb dX6_things_11 rfl (lv_at hl 0 rfl) ?_
      refine lv_aload_n hx hb dX6_things_12 rfl (lv_at hl 3 rfl) ?_
      refine va_get (D := D) (ci := 6) (v := .ref m8) (C := RX6) (T := TX6) (N := 23) hx hb hts w0 hown hK hP 0 rfl rfl 20 (by decide) w1 (fun _ h9 => h9) rfl dX6_things_13 ?_
      refine lv_iload_n hx hb dX6_things_16 rfl (lv_at hl 1 rfl) ?_
      obtain ⟨g2, hf⟩ := gd_inv hf
      refine va_iald hx hb hK hP 8 2 rfl rfl g2 dX6_things_17 ?_
      refine lv_icmp_ge (tgt := 50) hx hb dX6_things_18 (by decide) (fun c3 => ?_) (fun c3 => ?_)
      · have hf := if_p c3 hf
        have h1 := Option.some.inj hf
        subst h1
        exact kk H locs ls hP hD hS (lv_sub hl [0, 1, 2, 3] rfl)
      · have hf := if_n c3 hf
        refine lv_iload_n hx hb dX6_things_21 rfl (lv_at hl 2 rfl) ?_
        refine lv_aload_n hx hb dX6_things_22 rfl (lv_at hl 3 rfl) ?_
        refine va_get (D := D) (ci := 6) (v := .ref m10) (C := RX6) (T := TX6) (N := 23) hx hb hts w0 hown hK hP 0 rfl rfl 22 (by decide) w2 (fun _ h9 => h9) rfl dX6_things_23 ?_
        refine lv_bipush (v := 8) hx hb dX6_things_26 (by decide) ?_
        refine lv_iload_n hx hb dX6_things_28 rfl (lv_at hl 1 rfl) ?_
        refine lv_imul hx hb dX6_things_29 ?_
        refine lv_iload_n hx hb dX6_things_30 rfl (lv_at hl 0 rfl) ?_
        refine lv_iadd hx hb dX6_things_31 ?_
        obtain ⟨g4, hf⟩ := gd_inv hf
        refine va_iald hx hb hK hP 10 2 rfl rfl g4 dX6_things_32 ?_
        refine lv_iconst (v := (-1)) hx hb dX6_things_33 (by decide) ?_
        refine lv_icmp_ne (tgt := 41) hx hb dX6_things_34 (by decide) (fun c5 => ?_) (fun c5 => ?_)
        · have hf := if_n c5 hf
          refine lv_iconst (v := 1) hx hb dX6_things_41 (by decide) ?_
          refine lv_iadd hx hb dX6_things_42 ?_
          refine lv_istore_n (lv' := [(1, .int (x1_11 + 1)), (3, .int x3_11), (2, .int x2_11), (0, .ref ma)]) hx hb dX6_things_43 rfl hl (by decide) rfl (fun ls hl => ?_)
          refine lv_iinc (v := x3_11 + 1) (lv' := [(3, .int (x3_11 + 1)), (1, .int (x1_11 + 1)), (2, .int x2_11), (0, .ref ma)]) hx hb dX6_things_44 hl (k := 1) rfl rfl (by decide) rfl (fun ls hl => ?_)
          refine lv_goto (tgt := 11) hx hb dX6_things_47 (by decide) ?_
          exact ih (x3_11 + 1) (x1_11 + 1) x2_11 oo hf H locs ls hP hD hS (lv_sub hl [0, 2, 1, 3] rfl) kk
        · have hf := if_p c5 hf
          refine lv_iconst (v := 0) hx hb dX6_things_37 (by decide) ?_
          refine lv_goto (tgt := 42) hx hb dX6_things_38 (by decide) ?_
          refine lv_iadd hx hb dX6_things_42 ?_
          refine lv_istore_n (lv' := [(1, .int (x1_11 + 0)), (3, .int x3_11), (2, .int x2_11), (0, .ref ma)]) hx hb dX6_things_43 rfl hl (by decide) rfl (fun ls hl => ?_)
          refine lv_iinc (v := x3_11 + 1) (lv' := [(3, .int (x3_11 + 1)), (1, .int (x1_11 + 0)), (2, .int x2_11), (0, .ref ma)]) hx hb dX6_things_44 hl (k := 1) rfl rfl (by decide) rfl (fun ls hl => ?_)
          refine lv_goto (tgt := 11) hx hb dX6_things_47 (by decide) ?_
          exact ih (x3_11 + 1) (x1_11 + 0) x2_11 oo hf H locs ls hP hD hS (lv_sub hl [0, 2, 1, 3] rfl) kk
  have L4 : ∀ (n : Nat) (x2_4 : Int32) (x1_4 : Int32) (oo : Int32 × Int32), f_X6_things_L4 msz mpl n x2_4 x1_4 = some oo → ∀ (H : Heap) (locs : List Loc) (ls : Array Slot), va_P D vwCl [(ma, .inr (6, [.int mst, .int mwy, .int mmk, .int mwt, .ref m1, .ref m2, .ref m3, .ref m4, .int mun, .ref m5, .ref m6, .int mln, .int mfi, .int mbe, .int mrs, .int mrw, .int mcl, .int mdo, .int mnu, .ref m7, .ref m8, .ref m9, .ref m10])), (m1, .inl (cI, 24, .inl mvl)), (m2, .inl (cI, 96, .inl mof)), (m3, .inl (cI, 168, .inl mw)), (m4, .inl (cF, 288, .inr (.inr (.inl mf)))), (m5, .inl (cZ, 2, .inl mik)), (m6, .inl (cI, 200, .inl mtx)), (m7, .inl (cI, 56, .inl mwd)), (m8, .inl (cI, 3, .inl msz)), (m9, .inl (cI, 3, .inl mso)), (m10, .inl (cI, 24, .inl mpl))] H → va_D A [(ma, .inr (6, [.int mst, .int mwy, .int mmk, .int mwt, .ref m1, .ref m2, .ref m3, .ref m4, .int mun, .ref m5, .ref m6, .int mln, .int mfi, .int mbe, .int mrs, .int mrw, .int mcl, .int mdo, .int mnu, .ref m7, .ref m8, .ref m9, .ref m10])), (m1, .inl (cI, 24, .inl mvl)), (m2, .inl (cI, 96, .inl mof)), (m3, .inl (cI, 168, .inl mw)), (m4, .inl (cF, 288, .inr (.inr (.inl mf)))), (m5, .inl (cZ, 2, .inl mik)), (m6, .inl (cI, 200, .inl mtx)), (m7, .inl (cI, 56, .inl mwd)), (m8, .inl (cI, 3, .inl msz)), (m9, .inl (cI, 3, .inl mso)), (m10, .inl (cI, 24, .inl mpl))] → va_S A s.heap H locs → lv_has ls 4 [(2, .int x2_4), (1, .int x1_4), (0, .ref ma)] → (∀ (H : Heap) (locs : List Loc) (ls : Array Slot), va_P D vwCl [(ma, .inr (6, [.int mst, .int mwy, .int mmk, .int mwt, .ref m1, .ref m2, .ref m3, .ref m4, .int mun, .ref m5, .ref m6, .int mln, .int mfi, .int mbe, .int mrs, .int mrw, .int mcl, .int mdo, .int mnu, .ref m7, .ref m8, .ref m9, .ref m10])), (m1, .inl (cI, 24, .inl mvl)), (m2, .inl (cI, 96, .inl mof)), (m3, .inl (cI, 168, .inl mw)), (m4, .inl (cF, 288, .inr (.inr (.inl mf)))), (m5, .inl (cZ, 2, .inl mik)), (m6, .inl (cI, 200, .inl mtx)), (m7, .inl (cI, 56, .inl mwd)), (m8, .inl (cI, 3, .inl msz)), (m9, .inl (cI, 3, .inl mso)), (m10, .inl (cI, 24, .inl mpl))] H → va_D A [(ma, .inr (6, [.int mst, .int mwy, .int mmk, .int mwt, .ref m1, .ref m2, .ref m3, .ref m4, .int mun, .ref m5, .ref m6, .int mln, .int mfi, .int mbe, .int mrs, .int mrw, .int mcl, .int mdo, .int mnu, .ref m7, .ref m8, .ref m9, .ref m10])), (m1, .inl (cI, 24, .inl mvl)), (m2, .inl (cI, 96, .inl mof)), (m3, .inl (cI, 168, .inl mw)), (m4, .inl (cF, 288, .inr (.inr (.inl mf)))), (m5, .inl (cZ, 2, .inl mik)), (m6, .inl (cI, 200, .inl mtx)), (m7, .inl (cI, 56, .inl mwd)), (m8, .inl (cI, 3, .inl msz)), (m9, .inl (cI, 3, .inl mso)), (m10, .inl (cI, 24, .inl mpl))] → va_S A s.heap H locs → lv_has ls 4 [(2, .int oo.1), (1, .int oo.2), (0, .ref ma)] → W p l e { frames := 0, cells := 0, slots := 0, locals := 0 } s m args below meth c H locs 0 0 Q (F0 m 56 ls [])) → W p l e { frames := 0, cells := 0, slots := 0, locals := 0 } s m args below meth c H locs 0 0 Q (F0 m 4 ls []) := by
    intro n
    induction n with
    | zero => intro x2_4 x1_4 oo hf; exact absurd hf (by simp [f_X6_things_L4])
    | succ n ih =>
      intro x2_4 x1_4 oo hf H locs ls hP hD hS hl kk
      rw [f_X6_things_L4] at hf
      refine lv_iload_n hx hb dX6_things_4 rfl (lv_at hl 0 rfl) ?_
      refine lv_iconst (v := 3) hx hb dX6_things_5 (by decide) ?_
      refine lv_icmp_ge (tgt := 56) hx hb dX6_things_6 (by decide) (fun c1 => ?_) (fun c1 => ?_)
      · have hf := if_p c1 hf
        have h1 := Option.some.inj hf
        subst h1
        exact kk H locs ls hP hD hS (lv_sub hl [0, 1, 2] rfl)
      · have hf := if_n c1 hf
        refine lv_iconst (v := 0) hx hb dX6_things_9 (by decide) ?_
        refine lv_istore_n (lv' := [(3, .int 0), (2, .int x2_4), (1, .int x1_4), (0, .ref ma)]) hx hb dX6_things_10 rfl hl (by decide) rfl (fun ls hl => ?_)
        obtain ⟨⟨q6, q7, q8⟩, hq9, hf⟩ := bd_inv hf
        refine L11 1000 0 x1_4 x2_4 (q6, q7, q8) hq9 H locs ls hP hD hS (lv_sub hl [0, 1, 2, 3] rfl) (fun H locs ls hP hD hS hl => ?_)
        have hP : va_P D vwCl [(ma, .inr (6, [.int mst, .int mwy, .int mmk, .int mwt, .ref m1, .ref m2, .ref m3, .ref m4, .int mun, .ref m5, .ref m6, .int mln, .int mfi, .int mbe, .int mrs, .int mrw, .int mcl, .int mdo, .int mnu, .ref m7, .ref m8, .ref m9, .ref m10])), (m1, .inl (cI, 24, .inl mvl)), (m2, .inl (cI, 96, .inl mof)), (m3, .inl (cI, 168, .inl mw)), (m4, .inl (cF, 288, .inr (.inr (.inl mf)))), (m5, .inl (cZ, 2, .inl mik)), (m6, .inl (cI, 200, .inl mtx)), (m7, .inl (cI, 56, .inl mwd)), (m8, .inl (cI, 3, .inl msz)), (m9, .inl (cI, 3, .inl mso)), (m10, .inl (cI, 24, .inl mpl))] H := hP
        have hD : va_D A [(ma, .inr (6, [.int mst, .int mwy, .int mmk, .int mwt, .ref m1, .ref m2, .ref m3, .ref m4, .int mun, .ref m5, .ref m6, .int mln, .int mfi, .int mbe, .int mrs, .int mrw, .int mcl, .int mdo, .int mnu, .ref m7, .ref m8, .ref m9, .ref m10])), (m1, .inl (cI, 24, .inl mvl)), (m2, .inl (cI, 96, .inl mof)), (m3, .inl (cI, 168, .inl mw)), (m4, .inl (cF, 288, .inr (.inr (.inl mf)))), (m5, .inl (cZ, 2, .inl mik)), (m6, .inl (cI, 200, .inl mtx)), (m7, .inl (cI, 56, .inl mwd)), (m8, .inl (cI, 3, .inl msz)), (m9, .inl (cI, 3, .inl mso)), (m10, .inl (cI, 24, .inl mpl))] := hD
        have hl : lv_has ls 4 [(3, .int q6), (2, .int q7), (1, .int q8), (0, .ref ma)] := hl
        refine lv_iinc (v := q7 + 1) (lv' := [(2, .int (q7 + 1)), (3, .int q6), (1, .int q8), (0, .ref ma)]) hx hb dX6_things_50 hl (k := 1) rfl rfl (by decide) rfl (fun ls hl => ?_)
        refine lv_goto (tgt := 4) hx hb dX6_things_53 (by decide) ?_
        exact ih (q7 + 1) q8 oo hf H locs ls hP hD hS (lv_sub hl [0, 2, 3] rfl) kk
  unfold f_X6_things at hf
  refine lv_iconst (v := 0) hx hb dX6_things_0 (by decide) ?_
  refine lv_istore_n (lv' := [(1, .int 0), (0, .ref ma)]) hx hb dX6_things_1 rfl hl (by decide) rfl (fun ls hl => ?_)
  refine lv_iconst (v := 0) hx hb dX6_things_2 (by decide) ?_
  refine lv_istore_n (lv' := [(2, .int 0), (1, .int 0), (0, .ref ma)]) hx hb dX6_things_3 rfl hl (by decide) rfl (fun ls hl => ?_)
  obtain ⟨⟨q10, q11⟩, hq12, hf⟩ := bd_inv hf
  refine L4 1000 0 0 (q10, q11) hq12 H locs ls hP hD hS (lv_sub hl [0, 1, 2] rfl) (fun H locs ls hP hD hS hl => ?_)
  have hP : va_P D vwCl [(ma, .inr (6, [.int mst, .int mwy, .int mmk, .int mwt, .ref m1, .ref m2, .ref m3, .ref m4, .int mun, .ref m5, .ref m6, .int mln, .int mfi, .int mbe, .int mrs, .int mrw, .int mcl, .int mdo, .int mnu, .ref m7, .ref m8, .ref m9, .ref m10])), (m1, .inl (cI, 24, .inl mvl)), (m2, .inl (cI, 96, .inl mof)), (m3, .inl (cI, 168, .inl mw)), (m4, .inl (cF, 288, .inr (.inr (.inl mf)))), (m5, .inl (cZ, 2, .inl mik)), (m6, .inl (cI, 200, .inl mtx)), (m7, .inl (cI, 56, .inl mwd)), (m8, .inl (cI, 3, .inl msz)), (m9, .inl (cI, 3, .inl mso)), (m10, .inl (cI, 24, .inl mpl))] H := hP
  have hD : va_D A [(ma, .inr (6, [.int mst, .int mwy, .int mmk, .int mwt, .ref m1, .ref m2, .ref m3, .ref m4, .int mun, .ref m5, .ref m6, .int mln, .int mfi, .int mbe, .int mrs, .int mrw, .int mcl, .int mdo, .int mnu, .ref m7, .ref m8, .ref m9, .ref m10])), (m1, .inl (cI, 24, .inl mvl)), (m2, .inl (cI, 96, .inl mof)), (m3, .inl (cI, 168, .inl mw)), (m4, .inl (cF, 288, .inr (.inr (.inl mf)))), (m5, .inl (cZ, 2, .inl mik)), (m6, .inl (cI, 200, .inl mtx)), (m7, .inl (cI, 56, .inl mwd)), (m8, .inl (cI, 3, .inl msz)), (m9, .inl (cI, 3, .inl mso)), (m10, .inl (cI, 24, .inl mpl))] := hD
  have hl : lv_has ls 4 [(2, .int q10), (1, .int q11), (0, .ref ma)] := hl
  refine lv_iload_n hx hb dX6_things_56 rfl (lv_at hl 1 rfl) ?_
  have h1 := Option.some.inj hf
  subst h1
  rw [hQ]
  exact W.iret (v := q11) hx hb hr (fun t ht hW => qEnd hP hS ht) hS.2.2 dX6_things_57
set_option maxRecDepth 100000 in
set_option maxHeartbeats 4000000 in
theorem c_X6_count (l : Launch) (D : va_G) (B : Nat) (adK adV : Nat → Nat) (cC cF cI cZ cM cS : ClassId) (ma : Nat) (mst : Int32) (mwy : Int32) (mmk : Int32) (mwt : Int32) (m1 : Nat) (m2 : Nat) (m3 : Nat) (m4 : Nat) (mun : Int32) (m5 : Nat) (m6 : Nat) (mln : Int32) (mfi : Int32) (mbe : Int32) (mrs : Int32) (mrw : Int32) (mcl : Int32) (mdo : Int32) (mnu : Int32) (m7 : Nat) (m8 : Nat) (m9 : Nat) (m10 : Nat) (mvl : Nat → Int32) (mof : Nat → Int32) (mw : Nat → Int32) (mf : Nat → UInt32) (mik : Nat → Int32) (mtx : Nat → Int32) (mwd : Nat → Int32) (msz : Nat → Int32) (mso : Nat → Int32) (mpl : Nat → Int32) (k : Int32) (zz : Int32) (hf : f_X6_count mst mwy mmk mwt mun mln mw msz mpl k = some zz) : Ct l yX6_count wsX6_count { frames := 1, cells := 0, slots := 0, locals := 23 } D B adK adV (tysX cC cF cI cZ cM cS) [.ref ma, .int k] [(ma, .inr (6, [.int mst, .int mwy, .int mmk, .int mwt, .ref m1, .ref m2, .ref m3, .ref m4, .int mun, .ref m5, .ref m6, .int mln, .int mfi, .int mbe, .int mrs, .int mrw, .int mcl, .int mdo, .int mnu, .ref m7, .ref m8, .ref m9, .ref m10])), (m1, .inl (cI, 24, .inl mvl)), (m2, .inl (cI, 96, .inl mof)), (m3, .inl (cI, 168, .inl mw)), (m4, .inl (cF, 288, .inr (.inr (.inl mf)))), (m5, .inl (cZ, 2, .inl mik)), (m6, .inl (cI, 200, .inl mtx)), (m7, .inl (cI, 56, .inl mwd)), (m8, .inl (cI, 3, .inl msz)), (m9, .inl (cI, 3, .inl mso)), (m10, .inl (cI, 24, .inl mpl))] [(ma, .inr (6, [.int mst, .int mwy, .int mmk, .int mwt, .ref m1, .ref m2, .ref m3, .ref m4, .int mun, .ref m5, .ref m6, .int mln, .int mfi, .int mbe, .int mrs, .int mrw, .int mcl, .int mdo, .int mnu, .ref m7, .ref m8, .ref m9, .ref m10])), (m1, .inl (cI, 24, .inl mvl)), (m2, .inl (cI, 96, .inl mof)), (m3, .inl (cI, 168, .inl mw)), (m4, .inl (cF, 288, .inr (.inr (.inl mf)))), (m5, .inl (cZ, 2, .inl mik)), (m6, .inl (cI, 200, .inl mtx)), (m7, .inl (cI, 56, .inl mwd)), (m8, .inl (cI, 3, .inl msz)), (m9, .inl (cI, 3, .inl mso)), (m10, .inl (cI, 24, .inl mpl))] (some (.int zz)) := by
  refine Ct.ofW (cc := cX6_count) (maxL := 2) (ret := (some .int)) (by decide) rfl (Nat.le_of_ble_eq_true rfl) ?_
  intro p e s m args below meth c hx hb hr hml hts hown hlocks hnm hK hE A Q hQ hB H locs ls hP hD hS hl
  have hl : lv_has ls 2 [(0, .ref ma), (1, .int k)] := hl
  have w0 : ∀ w ∈ u_ws RX6 TX6 23, w ∈ wsX6_count := by decide +kernel
  have w1 := hts (.fieldLink RX6 144 "MotionStatesModel" "states" "I") (by decide +kernel)
  have w2 := hts (.fieldLink RX6 147 "MotionStatesModel" "ways" "I") (by decide +kernel)
  have w3 := hts (.fieldLink RX6 20 "MotionStatesModel" "w" "[I") (by decide +kernel)
  have w4 := hts (.fieldLink RX6 126 "MotionStatesModel" "mask" "I") (by decide +kernel)
  have w5 := hts (.fieldLink RX6 7 "MotionStatesModel" "weight" "I") (by decide +kernel)
  have w6 := hts (.fieldLink RX6 49 "MotionStatesModel" "undos" "I") (by decide +kernel)
  have w7 := hts (.fieldLink RX6 58 "MotionStatesModel" "length" "I") (by decide +kernel)
  unfold f_X6_count at hf
  refine lv_iload_n hx hb dX6_count_0 rfl (lv_at hl 1 rfl) ?_
  by_cases c1 : k = 0
  · have hf := if_p c1 hf
    refine lv_tableIn (off := 59) (tgt := 60) hx hb dX6_count_1 (by rw [c1]; decide) (by rw [c1]; decide) (by rw [c1]; decide) (by decide) ?_
    refine lv_aload_n hx hb dX6_count_60 rfl (lv_at hl 0 rfl) ?_
    refine va_get (D := D) (ci := 6) (v := .int mst) (C := RX6) (T := TX6) (N := 23) hx hb hts w0 hown hK hP 0 rfl rfl 0 (by decide) w1 (fun _ h9 => h9) rfl dX6_count_61 ?_
    have h1 := Option.some.inj hf
    subst h1
    rw [hQ]
    exact W.iret (v := mst) hx hb hr (fun t ht hW => qEnd hP hS ht) hS.2.2 dX6_count_64
  · have hf := if_n c1 hf
    by_cases c2 : k = 1
    · have hf := if_p c2 hf
      refine lv_tableIn (off := 64) (tgt := 65) hx hb dX6_count_1 (by rw [c2]; decide) (by rw [c2]; decide) (by rw [c2]; decide) (by decide) ?_
      refine lv_aload_n hx hb dX6_count_65 rfl (lv_at hl 0 rfl) ?_
      refine va_get (D := D) (ci := 6) (v := .int mwy) (C := RX6) (T := TX6) (N := 23) hx hb hts w0 hown hK hP 0 rfl rfl 1 (by decide) w2 (fun _ h9 => h9) rfl dX6_count_66 ?_
      have h1 := Option.some.inj hf
      subst h1
      rw [hQ]
      exact W.iret (v := mwy) hx hb hr (fun t ht hW => qEnd hP hS ht) hS.2.2 dX6_count_69
    · have hf := if_n c2 hf
      by_cases c3 : k = 2
      · have hf := if_p c3 hf
        refine lv_tableIn (off := 69) (tgt := 70) hx hb dX6_count_1 (by rw [c3]; decide) (by rw [c3]; decide) (by rw [c3]; decide) (by decide) ?_
        refine lv_aload_n hx hb dX6_count_70 rfl (lv_at hl 0 rfl) ?_
        refine va_get (D := D) (ci := 6) (v := .ref m3) (C := RX6) (T := TX6) (N := 23) hx hb hts w0 hown hK hP 0 rfl rfl 6 (by decide) w3 (fun _ h9 => h9) rfl dX6_count_71 ?_
        refine lv_bipush (v := 13) hx hb dX6_count_74 (by decide) ?_
        refine va_iald hx hb hK hP 3 2 rfl rfl (show iok 13 168 by decide) dX6_count_76 ?_
        refine W.eq (g2 := F0 m 77 ls (.int (mw 13) :: [])) rfl ?_
        have h1 := Option.some.inj hf
        subst h1
        rw [hQ]
        exact W.iret (v := (mw 13)) hx hb hr (fun t ht hW => qEnd hP hS ht) hS.2.2 dX6_count_77
      · have hf := if_n c3 hf
        by_cases c4 : k = 3
        · have hf := if_p c4 hf
          refine lv_tableIn (off := 77) (tgt := 78) hx hb dX6_count_1 (by rw [c4]; decide) (by rw [c4]; decide) (by rw [c4]; decide) (by decide) ?_
          refine lv_aload_n hx hb dX6_count_78 rfl (lv_at hl 0 rfl) ?_
          refine va_get (D := D) (ci := 6) (v := .ref m3) (C := RX6) (T := TX6) (N := 23) hx hb hts w0 hown hK hP 0 rfl rfl 6 (by decide) w3 (fun _ h9 => h9) rfl dX6_count_79 ?_
          refine lv_bipush (v := 10) hx hb dX6_count_82 (by decide) ?_
          refine lv_iload_n hx hb dX6_count_84 rfl (lv_at hl 1 rfl) ?_
          refine lv_iadd hx hb dX6_count_85 ?_
          refine lv_iconst (v := 3) hx hb dX6_count_86 (by decide) ?_
          refine lv_isub hx hb dX6_count_87 ?_
          obtain ⟨g5, hf⟩ := gd_inv hf
          refine va_iald hx hb hK hP 3 2 rfl rfl g5 dX6_count_88 ?_
          refine lv_bipush (v := 100) hx hb dX6_count_89 (by decide) ?_
          refine lv_iadd hx hb dX6_count_91 ?_
          have h1 := Option.some.inj hf
          subst h1
          rw [hQ]
          exact W.iret (v := ((mw ((((10 : Int32) + k) - 3).toNatClampNeg)) + 100)) hx hb hr (fun t ht hW => qEnd hP hS ht) hS.2.2 dX6_count_92
        · have hf := if_n c4 hf
          by_cases c6 : k = 4
          · have hf := if_p c6 hf
            refine lv_tableIn (off := 77) (tgt := 78) hx hb dX6_count_1 (by rw [c6]; decide) (by rw [c6]; decide) (by rw [c6]; decide) (by decide) ?_
            refine lv_aload_n hx hb dX6_count_78 rfl (lv_at hl 0 rfl) ?_
            refine va_get (D := D) (ci := 6) (v := .ref m3) (C := RX6) (T := TX6) (N := 23) hx hb hts w0 hown hK hP 0 rfl rfl 6 (by decide) w3 (fun _ h9 => h9) rfl dX6_count_79 ?_
            refine lv_bipush (v := 10) hx hb dX6_count_82 (by decide) ?_
            refine lv_iload_n hx hb dX6_count_84 rfl (lv_at hl 1 rfl) ?_
            refine lv_iadd hx hb dX6_count_85 ?_
            refine lv_iconst (v := 3) hx hb dX6_count_86 (by decide) ?_
            refine lv_isub hx hb dX6_count_87 ?_
            obtain ⟨g7, hf⟩ := gd_inv hf
            refine va_iald hx hb hK hP 3 2 rfl rfl g7 dX6_count_88 ?_
            refine lv_bipush (v := 100) hx hb dX6_count_89 (by decide) ?_
            refine lv_iadd hx hb dX6_count_91 ?_
            have h1 := Option.some.inj hf
            subst h1
            rw [hQ]
            exact W.iret (v := ((mw ((((10 : Int32) + k) - 3).toNatClampNeg)) + 100)) hx hb hr (fun t ht hW => qEnd hP hS ht) hS.2.2 dX6_count_92
          · have hf := if_n c6 hf
            by_cases c8 : k = 5
            · have hf := if_p c8 hf
              refine lv_tableIn (off := 77) (tgt := 78) hx hb dX6_count_1 (by rw [c8]; decide) (by rw [c8]; decide) (by rw [c8]; decide) (by decide) ?_
              refine lv_aload_n hx hb dX6_count_78 rfl (lv_at hl 0 rfl) ?_
              refine va_get (D := D) (ci := 6) (v := .ref m3) (C := RX6) (T := TX6) (N := 23) hx hb hts w0 hown hK hP 0 rfl rfl 6 (by decide) w3 (fun _ h9 => h9) rfl dX6_count_79 ?_
              refine lv_bipush (v := 10) hx hb dX6_count_82 (by decide) ?_
              refine lv_iload_n hx hb dX6_count_84 rfl (lv_at hl 1 rfl) ?_
              refine lv_iadd hx hb dX6_count_85 ?_
              refine lv_iconst (v := 3) hx hb dX6_count_86 (by decide) ?_
              refine lv_isub hx hb dX6_count_87 ?_
              obtain ⟨g9, hf⟩ := gd_inv hf
              refine va_iald hx hb hK hP 3 2 rfl rfl g9 dX6_count_88 ?_
              refine lv_bipush (v := 100) hx hb dX6_count_89 (by decide) ?_
              refine lv_iadd hx hb dX6_count_91 ?_
              have h1 := Option.some.inj hf
              subst h1
              rw [hQ]
              exact W.iret (v := ((mw ((((10 : Int32) + k) - 3).toNatClampNeg)) + 100)) hx hb hr (fun t ht hW => qEnd hP hS ht) hS.2.2 dX6_count_92
            · have hf := if_n c8 hf
              by_cases c10 : k = 6
              · have hf := if_p c10 hf
                refine lv_tableIn (off := 92) (tgt := 93) hx hb dX6_count_1 (by rw [c10]; decide) (by rw [c10]; decide) (by rw [c10]; decide) (by decide) ?_
                refine lv_aload_n hx hb dX6_count_93 rfl (lv_at hl 0 rfl) ?_
                refine va_get (D := D) (ci := 6) (v := .int mmk) (C := RX6) (T := TX6) (N := 23) hx hb hts w0 hown hK hP 0 rfl rfl 2 (by decide) w4 (fun _ h9 => h9) rfl dX6_count_94 ?_
                have h1 := Option.some.inj hf
                subst h1
                rw [hQ]
                exact W.iret (v := mmk) hx hb hr (fun t ht hW => qEnd hP hS ht) hS.2.2 dX6_count_97
              · have hf := if_n c10 hf
                by_cases c11 : k = 7
                · have hf := if_p c11 hf
                  refine lv_tableIn (off := 97) (tgt := 98) hx hb dX6_count_1 (by rw [c11]; decide) (by rw [c11]; decide) (by rw [c11]; decide) (by decide) ?_
                  refine lv_aload_n hx hb dX6_count_98 rfl (lv_at hl 0 rfl) ?_
                  refine va_get (D := D) (ci := 6) (v := .int mwt) (C := RX6) (T := TX6) (N := 23) hx hb hts w0 hown hK hP 0 rfl rfl 3 (by decide) w5 (fun _ h9 => h9) rfl dX6_count_99 ?_
                  have h1 := Option.some.inj hf
                  subst h1
                  rw [hQ]
                  exact W.iret (v := mwt) hx hb hr (fun t ht hW => qEnd hP hS ht) hS.2.2 dX6_count_102
                · have hf := if_n c11 hf
                  by_cases c12 : k = 8
                  · have hf := if_p c12 hf
                    refine lv_tableIn (off := 102) (tgt := 103) hx hb dX6_count_1 (by rw [c12]; decide) (by rw [c12]; decide) (by rw [c12]; decide) (by decide) ?_
                    refine lv_aload_n hx hb dX6_count_103 rfl (lv_at hl 0 rfl) ?_
                    obtain ⟨r13, hc14, hf⟩ := bd_inv hf
                    refine xcV (As := []) (rest := []) (ws' := [(ma, .inr (6, [.int mst, .int mwy, .int mmk, .int mwt, .ref m1, .ref m2, .ref m3, .ref m4, .int mun, .ref m5, .ref m6, .int mln, .int mfi, .int mbe, .int mrs, .int mrw, .int mcl, .int mdo, .int mnu, .ref m7, .ref m8, .ref m9, .ref m10])), (m1, .inl (cI, 24, .inl mvl)), (m2, .inl (cI, 96, .inl mof)), (m3, .inl (cI, 168, .inl mw)), (m4, .inl (cF, 288, .inr (.inr (.inl mf)))), (m5, .inl (cZ, 2, .inl mik)), (m6, .inl (cI, 200, .inl mtx)), (m7, .inl (cI, 56, .inl mwd)), (m8, .inl (cI, 3, .inl msz)), (m9, .inl (cI, 3, .inl mso)), (m10, .inl (cI, 24, .inl mpl))]) ⟨hx, hb, hml, hown, hts⟩ (c_X6_things l D B adK adV cC cF cI cZ cM cS ma mst mwy mmk mwt m1 m2 m3 m4 mun m5 m6 mln mfi mbe mrs mrw mcl mdo mnu m7 m8 m9 m10 mvl mof mw mf mik mtx mwd msz mso mpl  r13 hc14) (cwV 0 hts gX6_count_X6_things rfl rfl rfl (by decide +kernel) ⟨Nat.le_of_ble_eq_true rfl, Nat.le_of_ble_eq_true rfl⟩) (va_recv hK hP (ci := 6) (q0 := 0) rfl rfl) hK hP hD hS hB hE [0, 1, 2, 3, 4, 5, 6, 7, 8, 9, 10] rfl rfl rfl rfl rfl hl.1 rfl (Nat.le_of_ble_eq_true rfl) dX6_count_104 ⟨Nat.le_of_ble_eq_true rfl, Nat.le_of_ble_eq_true rfl⟩ (fun H locs hP hD hS => ?_)
                    refine W.eq (g2 := F0 m 107 ls [.int r13]) rfl ?_
                    have h1 := Option.some.inj hf
                    subst h1
                    rw [hQ]
                    exact W.iret (v := r13) hx hb hr (fun t ht hW => qEnd hP hS ht) hS.2.2 dX6_count_107
                  · have hf := if_n c12 hf
                    by_cases c15 : k = 9
                    · have hf := if_p c15 hf
                      refine lv_tableIn (off := 107) (tgt := 108) hx hb dX6_count_1 (by rw [c15]; decide) (by rw [c15]; decide) (by rw [c15]; decide) (by decide) ?_
                      refine lv_aload_n hx hb dX6_count_108 rfl (lv_at hl 0 rfl) ?_
                      refine va_get (D := D) (ci := 6) (v := .int mun) (C := RX6) (T := TX6) (N := 23) hx hb hts w0 hown hK hP 0 rfl rfl 8 (by decide) w6 (fun _ h9 => h9) rfl dX6_count_109 ?_
                      have h1 := Option.some.inj hf
                      subst h1
                      rw [hQ]
                      exact W.iret (v := mun) hx hb hr (fun t ht hW => qEnd hP hS ht) hS.2.2 dX6_count_112
                    · have hf := if_n c15 hf
                      by_cases c16 : k = 10
                      · have hf := if_p c16 hf
                        refine lv_tableIn (off := 112) (tgt := 113) hx hb dX6_count_1 (by rw [c16]; decide) (by rw [c16]; decide) (by rw [c16]; decide) (by decide) ?_
                        refine lv_aload_n hx hb dX6_count_113 rfl (lv_at hl 0 rfl) ?_
                        refine va_get (D := D) (ci := 6) (v := .int mln) (C := RX6) (T := TX6) (N := 23) hx hb hts w0 hown hK hP 0 rfl rfl 11 (by decide) w7 (fun _ h9 => h9) rfl dX6_count_114 ?_
                        have h1 := Option.some.inj hf
                        subst h1
                        rw [hQ]
                        exact W.iret (v := mln) hx hb hr (fun t ht hW => qEnd hP hS ht) hS.2.2 dX6_count_117
                      · have hf := if_n c16 hf
                        refine lv_tableOut (tgt := 118) hx hb dX6_count_1 (by have h0 := lv_neT c1 (a := 0) rfl; have h1 := lv_neT c2 (a := 1) rfl; have h2 := lv_neT c3 (a := 2) rfl; have h3 := lv_neT c4 (a := 3) rfl; have h4 := lv_neT c6 (a := 4) rfl; have h5 := lv_neT c8 (a := 5) rfl; have h6 := lv_neT c10 (a := 6) rfl; have h7 := lv_neT c11 (a := 7) rfl; have h8 := lv_neT c12 (a := 8) rfl; have h9 := lv_neT c15 (a := 9) rfl; have h10 := lv_neT c16 (a := 10) rfl; omega) (by decide) ?_
                        refine lv_bipush (v := (-3)) hx hb dX6_count_118 (by decide) ?_
                        have h1 := Option.some.inj hf
                        subst h1
                        rw [hQ]
                        exact W.iret (v := (-3)) hx hb hr (fun t ht hW => qEnd hP hS ht) hS.2.2 dX6_count_120
