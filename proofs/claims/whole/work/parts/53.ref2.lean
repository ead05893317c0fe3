set_option maxRecDepth 100000 in
set_option maxHeartbeats 4000000 in
theorem c_X6_nextToken (l : Launch) (D : va_G) (B : Nat) (adK adV : Nat → Nat) (cC cF cI cZ cM cS : ClassId) (ma : Nat) (mst : Int32) (mwy : Int32) (mmk : Int32) (mwt : Int32) (m1 : Nat) (m2 : Nat) (m3 : Nat) (m4 : Nat) (mun : Int32) (m5 : Nat) (m6 : Nat) (mln : Int32) (mfi : Int32) (mbe : Int32) (mrs : Int32) (mrw : Int32) (mcl : Int32) (mdo : Int32) (mnu : Int32) (m7 : Nat) (m8 : Nat) (m9 : Nat) (m10 : Nat) (mvl : Nat → Int32) (mof : Nat → Int32) (mw : Nat → Int32) (mf : Nat → UInt32) (mik : Nat → Int32) (mtx : Nat → Int32) (mwd : Nat → Int32) (msz : Nat → Int32) (mso : Nat → Int32) (mpl : Nat → Int32) (zz : Int32 × Int32) (hf : f_X6_nextToken mln mbe mtx = some zz) : Ct l yX6_nextToken wsX6_nextToken { frames := 2, cells := 0, slots := 0, locals := 45 } D B adK adV (tysX cC cF cI cZ cM cS) [.ref ma] [(ma, .inr (6, [.int mst, .int mwy, .int mmk, .int mwt, .ref m1, .ref m2, .ref m3, .ref m4, .int mun, .ref m5, .ref m6, .int mln, .int mfi, .int mbe, .int mrs, .int mrw, .int mcl, .int mdo, .int mnu, .ref m7, .ref m8, .ref m9, .ref m10])), (m1, .inl (cI, 24, .inl mvl)), (m2, .inl (cI, 96, .inl mof)), (m3, .inl (cI, 168, .inl mw)), (m4, .inl (cF, 288, .inr (.inr (.inl mf)))), (m5, .inl (cZ, 2, .inl mik)), (m6, .inl (cI, 200, .inl mtx)), (m7, .inl (cI, 56, .inl mwd)), (m8, .inl (cI, 3, .inl msz)), (m9, .inl (cI, 3, .inl mso)), (m10, .inl (cI, 24, .inl mpl))] [(ma, .inr (6, [.int mst, .int mwy, .int mmk, .int mwt, .ref m1, .ref m2, .ref m3, .ref m4, .int mun, .ref m5, .ref m6, .int mln, .int zz.1, .int zz.2, .int mrs, .int mrw, .int mcl, .int mdo, .int mnu, .ref m7, .ref m8, .ref m9, .ref m10])), (m1, .inl (cI, 24, .inl mvl)), (m2, .inl (cI, 96, .inl mof)), (m3, .inl (cI, 168, .inl mw)), (m4, .inl (cF, 288, .inr (.inr (.inl mf)))), (m5, .inl (cZ, 2, .inl mik)), (m6, .inl (cI, 200, .inl mtx)), (m7, .inl (cI, 56, .inl mwd)), (m8, .inl (cI, 3, .inl msz)), (m9, .inl (cI, 3, .inl mso)), (m10, .inl (cI, 24, .inl mpl))] none := by
  refine Ct.ofW (cc := cX6_nextToken) (maxL := 2) (ret := none) (by decide) rfl (Nat.le_of_ble_eq_true rfl) ?_
  intro p e s m args below meth c hx hb hr hml hts hown hlocks hnm hK hE A Q hQ hB H locs ls hP hD hS hl
  have hl : lv_has ls 2 [(0, .ref ma)] := hl
  have w0 : ∀ w ∈ u_ws RX6 TX6 23, w ∈ wsX6_nextToken := by decide +kernel
  have w1 := hts (.fieldLink RX6 69 "MotionStatesModel" "behind" "I") (by decide +kernel)
  have w2 := hts (.fieldLink RX6 72 "MotionStatesModel" "first" "I") (by decide +kernel)
  have w3 := hts (.fieldLink RX6 58 "MotionStatesModel" "length" "I") (by decide +kernel)
  have w4 := hts (.fieldLink RX6 31 "MotionStatesModel" "text" "[I") (by decide +kernel)
  have L8 : ∀ (n : Nat) (mfi_8 : Int32) (oo : Int32), f_X6_nextToken_L8 mln mtx n mfi_8 = some oo → ∀ (H : Heap) (locs : List Loc) (ls : Array Slot), va_P D vwCl [(ma, .inr (6, [.int mst, .int mwy, .int mmk, .int mwt, .ref m1, .ref m2, .ref m3, .ref m4, .int mun, .ref m5, .ref m6, .int mln, .int mfi_8, .int mbe, .int mrs, .int mrw, .int mcl, .int mdo, .int mnu, .ref m7, .ref m8, .ref m9, .ref m10])), (m1, .inl (cI, 24, .inl mvl)), (m2, .inl (cI, 96, .inl mof)), (m3, .inl (cI, 168, .inl mw)), (m4, .inl (cF, 288, .inr (.inr (.inl mf)))), (m5, .inl (cZ, 2, .inl mik)), (m6, .inl (cI, 200, .inl mtx)), (m7, .inl (cI, 56, .inl mwd)), (m8, .inl (cI, 3, .inl msz)), (m9, .inl (cI, 3, .inl mso)), (m10, .inl (cI, 24, .inl mpl))] H → va_D A [(ma, .inr (6, [.int mst, .int mwy, .int mmk, .int mwt, .ref m1, .ref m2, .ref m3, .ref m4, .int mun, .ref m5, .ref m6, .int mln, .int mfi_8, .int mbe, .int mrs, .int mrw, .int mcl, .int mdo, .int mnu, .ref m7, .ref m8, .ref m9, .ref m10])), (m1, .inl (cI, 24, .inl mvl)), (m2, .inl (cI, 96, .inl mof)), (m3, .inl (cI, 168, .inl mw)), (m4, .inl (cF, 288, .inr (.inr (.inl mf)))), (m5, .inl (cZ, 2, .inl mik)), (m6, .inl (cI, 200, .inl mtx)), (m7, .inl (cI, 56, .inl mwd)), (m8, .inl (cI, 3, .inl msz)), (m9, .inl (cI, 3, .inl mso)), (m10, .inl (cI, 24, .inl mpl))] → va_S A s.heap H locs → lv_has ls 2 [(0, .ref ma)] → (∀ (H : Heap) (locs : List Loc) (ls : Array Slot), va_P D vwCl [(ma, .inr (6, [.int mst, .int mwy, .int mmk, .int mwt, .ref m1, .ref m2, .ref m3, .ref m4, .int mun, .ref m5, .ref m6, .int mln, .int oo, .int mbe, .int mrs, .int mrw, .int mcl, .int mdo, .int mnu, .ref m7, .ref m8, .ref m9, .ref m10])), (m1, .inl (cI, 24, .inl mvl)), (m2, .inl (cI, 96, .inl mof)), (m3, .inl (cI, 168, .inl mw)), (m4, .inl (cF, 288, .inr (.inr (.inl mf)))), (m5, .inl (cZ, 2, .inl mik)), (m6, .inl (cI, 200, .inl mtx)), (m7, .inl (cI, 56, .inl mwd)), (m8, .inl (cI, 3, .inl msz)), (m9, .inl (cI, 3, .inl mso)), (m10, .inl (cI, 24, .inl mpl))] H → va_D A [(ma, .inr (6, [.int mst, .int mwy, .int mmk, .int mwt, .ref m1, .ref m2, .ref m3, .ref m4, .int mun, .ref m5, .ref m6, .int mln, .int oo, .int mbe, .int mrs, .int mrw, .int mcl, .int mdo, .int mnu, .ref m7, .ref m8, .ref m9, .ref m10])), (m1, .inl (cI, 24, .inl mvl)), (m2, .inl (cI, 96, .inl mof)), (m3, .inl (cI, 168, .inl mw)), (m4, .inl (cF, 288, .inr (.inr (.inl mf)))), (m5, .inl (cZ, 2, .inl mik)), (m6, .inl (cI, 200, .inl mtx)), (m7, .inl (cI, 56, .inl mwd)), (m8, .inl (cI, 3, .inl msz)), (m9, .inl (cI, 3, .inl mso)), (m10, .inl (cI, 24, .inl mpl))] → va_S A s.heap H locs → lv_has ls 2 [(0, .ref ma)] → W p l e { frames := 2, cells := 0, slots := 0, locals := 45 } s m args below meth c H locs 0 0 Q (F0 m 46 ls [])) → W p l e { frames := 2, cells := 0, slots := 0, locals := 45 } s m args below meth c H locs 0 0 Q (F0 m 8 ls []) := by
    intro n
    induction n with
    | zero => intro mfi_8 oo hf; exact absurd hf (by simp [f_X6_nextToken_L8])
    | succ n ih =>
      intro mfi_8 oo hf H locs ls hP hD hS hl kk
      rw [f_X6_nextToken_L8] at hf
      refine lv_aload_n hx hb dX6_nextToken_8 rfl (lv_at hl 0 rfl) ?_
      refine va_get (D := D) (ci := 6) (v := .int mfi_8) (C := RX6) (T := TX6) (N := 23) hx hb hts w0 hown hK hP 0 rfl rfl 12 (by decide) w2 (fun _ h9 => h9) rfl dX6_nextToken_9 ?_
      refine lv_aload_n hx hb dX6_nextToken_12 rfl (lv_at hl 0 rfl) ?_
      refine va_get (D := D) (ci := 6) (v := .int mln) (C := RX6) (T := TX6) (N := 23) hx hb hts w0 hown hK hP 0 rfl rfl 11 (by decide) w3 (fun _ h9 => h9) rfl dX6_nextToken_13 ?_
      refine lv_icmp_ge (tgt := 46) hx hb dX6_nextToken_16 (by decide) (fun c1 => ?_) (fun c1 => ?_)
      · have hf := if_p c1 hf
        have h1 := Option.some.inj hf
        subst h1
        exact kk H locs ls hP hD hS (lv_sub hl [0] rfl)
      · have hf := if_n c1 hf
        refine lv_aload_n hx hb dX6_nextToken_19 rfl (lv_at hl 0 rfl) ?_
        refine va_get (D := D) (ci := 6) (v := .ref m6) (C := RX6) (T := TX6) (N := 23) hx hb hts w0 hown hK hP 0 rfl rfl 10 (by decide) w4 (fun _ h9 => h9) rfl dX6_nextToken_20 ?_
        refine lv_aload_n hx hb dX6_nextToken_23 rfl (lv_at hl 0 rfl) ?_
        refine va_get (D := D) (ci := 6) (v := .int mfi_8) (C := RX6) (T := TX6) (N := 23) hx hb hts w0 hown hK hP 0 rfl rfl 12 (by decide) w2 (fun _ h9 => h9) rfl dX6_nextToken_24 ?_
        obtain ⟨g2, hf⟩ := gd_inv hf
        refine va_iald hx hb hK hP 6 2 rfl rfl g2 dX6_nextToken_27 ?_
        refine lv_bipush (v := 32) hx hb dX6_nextToken_28 (by decide) ?_
        refine lv_icmp_ne (tgt := 46) hx hb dX6_nextToken_30 (by decide) (fun c3 => ?_) (fun c3 => ?_)
        · have hf := if_n c3 hf
          have h1 := Option.some.inj hf
          subst h1
          exact kk H locs ls hP hD hS (lv_sub hl [0] rfl)
        · have hf := if_p c3 hf
          refine lv_aload_n hx hb dX6_nextToken_33 rfl (lv_at hl 0 rfl) ?_
          refine lv_dup hx hb dX6_nextToken_34 rfl ?_
          refine va_get (D := D) (ci := 6) (v := .int mfi_8) (C := RX6) (T := TX6) (N := 23) hx hb hts w0 hown hK hP 0 rfl rfl 12 (by decide) w2 (fun _ h9 => h9) rfl dX6_nextToken_35 ?_
          refine lv_iconst (v := 1) hx hb dX6_nextToken_38 (by decide) ?_
          refine lv_iadd hx hb dX6_nextToken_39 ?_
          refine va_put (D := D) (ci := 6) (v := .int (mfi_8 + 1)) (ty := .int) (C := RX6) (T := TX6) (N := 23) hx hb hts w0 tyX6 tyX6_ok nmX6 hown hK hP hD hS 0 rfl rfl 12 (by decide) w2 (fun _ h9 => h9) rfl (by decide +kernel) rfl rfl (Nat.le_of_ble_eq_true rfl) dX6_nextToken_40 (fun H locs hP hD hS => ?_)
          have hP : va_P D vwCl [(ma, .inr (6, [.int mst, .int mwy, .int mmk, .int mwt, .ref m1, .ref m2, .ref m3, .ref m4, .int mun, .ref m5, .ref m6, .int mln, .int (mfi_8 + 1), .int mbe, .int mrs, .int mrw, .int mcl, .int mdo, .int mnu, .ref m7, .ref m8, .ref m9, .ref m10])), (m1, .inl (cI, 24, .inl mvl)), (m2, .inl (cI, 96, .inl mof)), (m3, .inl (cI, 168, .inl mw)), (m4, .inl (cF, 288, .inr (.inr (.inl mf)))), (m5, .inl (cZ, 2, .inl mik)), (m6, .inl (cI, 200, .inl mtx)), (m7, .inl (cI, 56, .inl mwd)), (m8, .inl (cI, 3, .inl msz)), (m9, .inl (cI, 3, .inl mso)), (m10, .inl (cI, 24, .inl mpl))] H := hP
          have hD : va_D A [(ma, .inr (6, [.int mst, .int mwy, .int mmk, .int mwt, .ref m1, .ref m2, .ref m3, .ref m4, .int mun, .ref m5, .ref m6, .int mln, .int (mfi_8 + 1), .int mbe, .int mrs, .int mrw, .int mcl, .int mdo, .int mnu, .ref m7, .ref m8, .ref m9, .ref m10])), (m1, .inl (cI, 24, .inl mvl)), (m2, .inl (cI, 96, .inl mof)), (m3, .inl (cI, 168, .inl mw)), (m4, .inl (cF, 288, .inr (.inr (.inl mf)))), (m5, .inl (cZ, 2, .inl mik)), (m6, .inl (cI, 200, .inl mtx)), (m7, .inl (cI, 56, .inl mwd)), (m8, .inl (cI, 3, .inl msz)), (m9, .inl (cI, 3, .inl mso)), (m10, .inl (cI, 24, .inl mpl))] := hD
          refine lv_goto (tgt := 8) hx hb dX6_nextToken_43 (by decide) ?_
          exact ih (mfi_8 + 1) oo hf H locs ls hP hD hS (lv_sub hl [0] rfl) kk
  have L85 : ∀ (n : Nat) (mbe_85 : Int32) (x1_85 : Int32) (mfi_85 : Int32) (oo : Int32 × Int32 × Int32), f_X6_nextToken_L85 mln mtx n mbe_85 x1_85 mfi_85 = some oo → ∀ (H : Heap) (locs : List Loc) (ls : Array Slot), va_P D vwCl [(ma, .inr (6, [.int mst, .int mwy, .int mmk, .int mwt, .ref m1, .ref m2, .ref m3, .ref m4, .int mun, .ref m5, .ref m6, .int mln, .int mfi_85, .int mbe_85, .int mrs, .int mrw, .int mcl, .int mdo, .int mnu, .ref m7, .ref m8, .ref m9, .ref m10])), (m1, .inl (cI, 24, .inl mvl)), (m2, .inl (cI, 96, .inl mof)), (m3, .inl (cI, 168, .inl mw)), (m4, .inl (cF, 288, .inr (.inr (.inl mf)))), (m5, .inl (cZ, 2, .inl mik)), (m6, .inl (cI, 200, .inl mtx)), (m7, .inl (cI, 56, .inl mwd)), (m8, .inl (cI, 3, .inl msz)), (m9, .inl (cI, 3, .inl mso)), (m10, .inl (cI, 24, .inl mpl))] H → va_D A [(ma, .inr (6, [.int mst, .int mwy, .int mmk, .int mwt, .ref m1, .ref m2, .ref m3, .ref m4, .int mun, .ref m5, .ref m6, .int mln, .int mfi_85, .int mbe_85, .int mrs, .int mrw, .int mcl, .int mdo, .int mnu, .ref m7, .ref m8, .ref m9, .ref m10])), (m1, .inl (cI, 24, .inl mvl)), (m2, .inl (cI, 96, .inl mof)), (m3, .inl (cI, 168, .inl mw)), (m4, .inl (cF, 288, .inr (.inr (.inl mf)))), (m5, .inl (cZ, 2, .inl mik)), (m6, .inl (cI, 200, .inl mtx)), (m7, .inl (cI, 56, .inl mwd)), (m8, .inl (cI, 3, .inl msz)), (m9, .inl (cI, 3, .inl mso)), (m10, .inl (cI, 24, .inl mpl))] → va_S A s.heap H locs → lv_has ls 2 [(1, .int x1_85), (0, .ref ma)] → (∀ (H : Heap) (locs : List Loc) (ls : Array Slot), va_P D vwCl [(ma, .inr (6, [.int mst, .int mwy, .int mmk, .int mwt, .ref m1, .ref m2, .ref m3, .ref m4, .int mun, .ref m5, .ref m6, .int mln, .int oo.2.2, .int oo.1, .int mrs, .int mrw, .int mcl, .int mdo, .int mnu, .ref m7, .ref m8, .ref m9, .ref m10])), (m1, .inl (cI, 24, .inl mvl)), (m2, .inl (cI, 96, .inl mof)), (m3, .inl (cI, 168, .inl mw)), (m4, .inl (cF, 288, .inr (.inr (.inl mf)))), (m5, .inl (cZ, 2, .inl mik)), (m6, .inl (cI, 200, .inl mtx)), (m7, .inl (cI, 56, .inl mwd)), (m8, .inl (cI, 3, .inl msz)), (m9, .inl (cI, 3, .inl mso)), (m10, .inl (cI, 24, .inl mpl))] H → va_D A [(ma, .inr (6, [.int mst, .int mwy, .int mmk, .int mwt, .ref m1, .ref m2, .ref m3, .ref m4, .int mun, .ref m5, .ref m6, .int mln, .int oo.2.2, .int oo.1, .int mrs, .int mrw, .int mcl, .int mdo, .int mnu, .ref m7, .ref m8, .ref m9, .ref m10])), (m1, .inl (cI, 24, .inl mvl)), (m2, .inl (cI, 96, .inl mof)), (m3, .inl (cI, 168, .inl mw)), (m4, .inl (cF, 288, .inr (.inr (.inl mf)))), (m5, .inl (cZ, 2, .inl mik)), (m6, .inl (cI, 200, .inl mtx)), (m7, .inl (cI, 56, .inl mwd)), (m8, .inl (cI, 3, .inl msz)), (m9, .inl (cI, 3, .inl mso)), (m10, .inl (cI, 24, .inl mpl))] → va_S A s.heap H locs → lv_has ls 2 [(1, .int oo.2.1), (0, .ref ma)] → W p l e { frames := 2, cells := 0, slots := 0, locals := 45 } s m args below meth c H locs 0 0 Q (F0 m 153 ls [])) → W p l e { frames := 2, cells := 0, slots := 0, locals := 45 } s m args below meth c H locs 0 0 Q (F0 m 85 ls []) := by
    intro n
    induction n with
    | zero => intro mbe_85 x1_85 mfi_85 oo hf; exact absurd hf (by simp [f_X6_nextToken_L85])
    | succ n ih =>
      intro mbe_85 x1_85 mfi_85 oo hf H locs ls hP hD hS hl kk
      rw [f_X6_nextToken_L85] at hf
      refine lv_aload_n hx hb dX6_nextToken_85 rfl (lv_at hl 1 rfl) ?_
      refine va_get (D := D) (ci := 6) (v := .int mbe_85) (C := RX6) (T := TX6) (N := 23) hx hb hts w0 hown hK hP 0 rfl rfl 13 (by decide) w1 (fun _ h9 => h9) rfl dX6_nextToken_86 ?_
      refine lv_aload_n hx hb dX6_nextToken_89 rfl (lv_at hl 1 rfl) ?_
      refine va_get (D := D) (ci := 6) (v := .int mln) (C := RX6) (T := TX6) (N := 23) hx hb hts w0 hown hK hP 0 rfl rfl 11 (by decide) w3 (fun _ h9 => h9) rfl dX6_nextToken_90 ?_
      refine lv_icmp_ge (tgt := 153) hx hb dX6_nextToken_93 (by decide) (fun c7 => ?_) (fun c7 => ?_)
      · have hf := if_p c7 hf
        have h1 := Option.some.inj hf
        subst h1
        exact kk H locs ls hP hD hS (lv_sub hl [0, 1] rfl)
      · have hf := if_n c7 hf
        refine lv_iload_n hx hb dX6_nextToken_96 rfl (lv_at hl 0 rfl) ?_
        obtain ⟨r8, hc9, hf⟩ := bd_inv hf
        refine xcS (As := [.int x1_85]) (rest := []) (ws' := [(ma, .inr (6, [.int mst, .int mwy, .int mmk, .int mwt, .ref m1, .ref m2, .ref m3, .ref m4, .int mun, .ref m5, .ref m6, .int mln, .int mfi_85, .int mbe_85, .int mrs, .int mrw, .int mcl, .int mdo, .int mnu, .ref m7, .ref m8, .ref m9, .ref m10])), (m1, .inl (cI, 24, .inl mvl)), (m2, .inl (cI, 96, .inl mof)), (m3, .inl (cI, 168, .inl mw)), (m4, .inl (cF, 288, .inr (.inr (.inl mf)))), (m5, .inl (cZ, 2, .inl mik)), (m6, .inl (cI, 200, .inl mtx)), (m7, .inl (cI, 56, .inl mwd)), (m8, .inl (cI, 3, .inl msz)), (m9, .inl (cI, 3, .inl mso)), (m10, .inl (cI, 24, .inl mpl))]) ⟨hx, hb, hml, hown, hts⟩ (c_X6_isLetter l D B adK adV cC cF cI cZ cM cS x1_85  r8 hc9) (va_cwS 1 hts gX6_nextToken_X6_isLetter rfl rfl rfl (by decide +kernel) ⟨Nat.le_of_ble_eq_true rfl, Nat.le_of_ble_eq_true rfl⟩) hK hP hD hS hB hE [] rfl rfl rfl rfl rfl hl.1 rfl (Nat.le_of_ble_eq_true rfl) dX6_nextToken_97 ⟨Nat.le_of_ble_eq_true rfl, Nat.le_of_ble_eq_true rfl⟩ (fun H locs hP hD hS => ?_)
        refine W.eq (g2 := F0 m 100 ls [.int r8]) rfl ?_
        refine lv_if_eq (tgt := 118) hx hb dX6_nextToken_100 (by decide) (fun c10 => ?_) (fun c10 => ?_)
        · have hf := if_p c10 hf
          refine lv_iload_n hx hb dX6_nextToken_118 rfl (lv_at hl 0 rfl) ?_
          obtain ⟨r11, hc12, hf⟩ := bd_inv hf
          refine xcS (As := [.int x1_85]) (rest := []) (ws' := [(ma, .inr (6, [.int mst, .int mwy, .int mmk, .int mwt, .ref m1, .ref m2, .ref m3, .ref m4, .int mun, .ref m5, .ref m6, .int mln, .int mfi_85, .int mbe_85, .int mrs, .int mrw, .int mcl, .int mdo, .int mnu, .ref m7, .ref m8, .ref m9, .ref m10])), (m1, .inl (cI, 24, .inl mvl)), (m2, .inl (cI, 96, .inl mof)), (m3, .inl (cI, 168, .inl mw)), (m4, .inl (cF, 288, .inr (.inr (.inl mf)))), (m5, .inl (cZ, 2, .inl mik)), (m6, .inl (cI, 200, .inl mtx)), (m7, .inl (cI, 56, .inl mwd)), (m8, .inl (cI, 3, .inl msz)), (m9, .inl (cI, 3, .inl mso)), (m10, .inl (cI, 24, .inl mpl))]) ⟨hx, hb, hml, hown, hts⟩ (c_X6_isDigit l D B adK adV cC cF cI cZ cM cS x1_85  r11 hc12) (va_cwS 1 hts gX6_nextToken_X6_isDigit rfl rfl rfl (by decide +kernel) ⟨Nat.le_of_ble_eq_true rfl, Nat.le_of_ble_eq_true rfl⟩) hK hP hD hS hB hE [] rfl rfl rfl rfl rfl hl.1 rfl (Nat.le_of_ble_eq_true rfl) dX6_nextToken_119 ⟨Nat.le_of_ble_eq_true rfl, Nat.le_of_ble_eq_true rfl⟩ (fun H locs hP hD hS => ?_)
          refine W.eq (g2 := F0 m 122 ls [.int r11]) rfl ?_
          refine lv_if_eq (tgt := 153) hx hb dX6_nextToken_122 (by decide) (fun c13 => ?_) (fun c13 => ?_)
          · have hf := if_p c13 hf
            have h1 := Option.some.inj hf
            subst h1
            exact kk H locs ls hP hD hS (lv_sub hl [0, 1] rfl)
          · have hf := if_n c13 hf
            refine lv_aload_n hx hb dX6_nextToken_125 rfl (lv_at hl 1 rfl) ?_
            refine va_get (D := D) (ci := 6) (v := .ref m6) (C := RX6) (T := TX6) (N := 23) hx hb hts w0 hown hK hP 0 rfl rfl 10 (by decide) w4 (fun _ h9 => h9) rfl dX6_nextToken_126 ?_
            refine lv_aload_n hx hb dX6_nextToken_129 rfl (lv_at hl 1 rfl) ?_
            refine va_get (D := D) (ci := 6) (v := .int mbe_85) (C := RX6) (T := TX6) (N := 23) hx hb hts w0 hown hK hP 0 rfl rfl 13 (by decide) w1 (fun _ h9 => h9) rfl dX6_nextToken_130 ?_
            obtain ⟨g14, hf⟩ := gd_inv hf
            refine va_iald hx hb hK hP 6 2 rfl rfl g14 dX6_nextToken_133 ?_
            obtain ⟨r15, hc16, hf⟩ := bd_inv hf
            refine xcS (As := [.int (mtx mbe_85.toNatClampNeg)]) (rest := []) (ws' := [(ma, .inr (6, [.int mst, .int mwy, .int mmk, .int mwt, .ref m1, .ref m2, .ref m3, .ref m4, .int mun, .ref m5, .ref m6, .int mln, .int mfi_85, .int mbe_85, .int mrs, .int mrw, .int mcl, .int mdo, .int mnu, .ref m7, .ref m8, .ref m9, .ref m10])), (m1, .inl (cI, 24, .inl mvl)), (m2, .inl (cI, 96, .inl mof)), (m3, .inl (cI, 168, .inl mw)), (m4, .inl (cF, 288, .inr (.inr (.inl mf)))), (m5, .inl (cZ, 2, .inl mik)), (m6, .inl (cI, 200, .inl mtx)), (m7, .inl (cI, 56, .inl mwd)), (m8, .inl (cI, 3, .inl msz)), (m9, .inl (cI, 3, .inl mso)), (m10, .inl (cI, 24, .inl mpl))]) ⟨hx, hb, hml, hown, hts⟩ (c_X6_isDigit l D B adK adV cC cF cI cZ cM cS (mtx mbe_85.toNatClampNeg)  r15 hc16) (va_cwS 1 hts gX6_nextToken_X6_isDigit rfl rfl rfl (by decide +kernel) ⟨Nat.le_of_ble_eq_true rfl, Nat.le_of_ble_eq_true rfl⟩) hK hP hD hS hB hE [] rfl rfl rfl rfl rfl hl.1 rfl (Nat.le_of_ble_eq_true rfl) dX6_nextToken_134 ⟨Nat.le_of_ble_eq_true rfl, Nat.le_of_ble_eq_true rfl⟩ (fun H locs hP hD hS => ?_)
            refine W.eq (g2 := F0 m 137 ls [.int r15]) rfl ?_
            refine lv_if_eq (tgt := 153) hx hb dX6_nextToken_137 (by decide) (fun c17 => ?_) (fun c17 => ?_)
            · have hf := if_p c17 hf
              have h1 := Option.some.inj hf
              subst h1
              exact kk H locs ls hP hD hS (lv_sub hl [0, 1] rfl)
            · have hf := if_n c17 hf
              refine lv_aload_n hx hb dX6_nextToken_140 rfl (lv_at hl 1 rfl) ?_
              refine lv_dup hx hb dX6_nextToken_141 rfl ?_
              refine va_get (D := D) (ci := 6) (v := .int mbe_85) (C := RX6) (T := TX6) (N := 23) hx hb hts w0 hown hK hP 0 rfl rfl 13 (by decide) w1 (fun _ h9 => h9) rfl dX6_nextToken_142 ?_
              refine lv_iconst (v := 1) hx hb dX6_nextToken_145 (by decide) ?_
              refine lv_iadd hx hb dX6_nextToken_146 ?_
              refine va_put (D := D) (ci := 6) (v := .int (mbe_85 + 1)) (ty := .int) (C := RX6) (T := TX6) (N := 23) hx hb hts w0 tyX6 tyX6_ok nmX6 hown hK hP hD hS 0 rfl rfl 13 (by decide) w1 (fun _ h9 => h9) rfl (by decide +kernel) rfl rfl (Nat.le_of_ble_eq_true rfl) dX6_nextToken_147 (fun H locs hP hD hS => ?_)
              have hP : va_P D vwCl [(ma, .inr (6, [.int mst, .int mwy, .int mmk, .int mwt, .ref m1, .ref m2, .ref m3, .ref m4, .int mun, .ref m5, .ref m6, .int mln, .int mfi_85, .int (mbe_85 + 1), .int mrs, .int mrw, .int mcl, .int mdo, .int mnu, .ref m7, .ref m8, .ref m9, .ref m10])), (m1, .inl (cI, 24, .inl mvl)), (m2, .inl (cI, 96, .inl mof)), (m3, .inl (cI, 168, .inl mw)), (m4, .inl (cF, 288, .inr (.inr (.inl mf)))), (m5, .inl (cZ, 2, .inl mik)), (m6, .inl (cI, 200, .inl mtx)), (m7, .inl (cI, 56, .inl mwd)), (m8, .inl (cI, 3, .inl msz)), (m9, .inl (cI, 3, .inl mso)), (m10, .inl (cI, 24, .inl mpl))] H := hP
              have hD : va_D A [(ma, .inr (6, [.int mst, .int mwy, .int mmk, .int mwt, .ref m1, .ref m2, .ref m3, .ref m4, .int mun, .ref m5, .ref m6, .int mln, .int mfi_85, .int (mbe_85 + 1), .int mrs, .int mrw, .int mcl, .int mdo, .int mnu, .ref m7, .ref m8, .ref m9, .ref m10])), (m1, .inl (cI, 24, .inl mvl)), (m2, .inl (cI, 96, .inl mof)), (m3, .inl (cI, 168, .inl mw)), (m4, .inl (cF, 288, .inr (.inr (.inl mf)))), (m5, .inl (cZ, 2, .inl mik)), (m6, .inl (cI, 200, .inl mtx)), (m7, .inl (cI, 56, .inl mwd)), (m8, .inl (cI, 3, .inl msz)), (m9, .inl (cI, 3, .inl mso)), (m10, .inl (cI, 24, .inl mpl))] := hD
              refine lv_goto (tgt := 85) hx hb dX6_nextToken_150 (by decide) ?_
              exact ih (mbe_85 + 1) x1_85 mfi_85 oo hf H locs ls hP hD hS (lv_sub hl [0, 1] rfl) kk
        · have hf := if_n c10 hf
          refine lv_aload_n hx hb dX6_nextToken_103 rfl (lv_at hl 1 rfl) ?_
          refine va_get (D := D) (ci := 6) (v := .ref m6) (C := RX6) (T := TX6) (N := 23) hx hb hts w0 hown hK hP 0 rfl rfl 10 (by decide) w4 (fun _ h9 => h9) rfl dX6_nextToken_104 ?_
          refine lv_aload_n hx hb dX6_nextToken_107 rfl (lv_at hl 1 rfl) ?_
          refine va_get (D := D) (ci := 6) (v := .int mbe_85) (C := RX6) (T := TX6) (N := 23) hx hb hts w0 hown hK hP 0 rfl rfl 13 (by decide) w1 (fun _ h9 => h9) rfl dX6_nextToken_108 ?_
          obtain ⟨g18, hf⟩ := gd_inv hf
          refine va_iald hx hb hK hP 6 2 rfl rfl g18 dX6_nextToken_111 ?_
          obtain ⟨r19, hc20, hf⟩ := bd_inv hf
          refine xcS (As := [.int (mtx mbe_85.toNatClampNeg)]) (rest := []) (ws' := [(ma, .inr (6, [.int mst, .int mwy, .int mmk, .int mwt, .ref m1, .ref m2, .ref m3, .ref m4, .int mun, .ref m5, .ref m6, .int mln, .int mfi_85, .int mbe_85, .int mrs, .int mrw, .int mcl, .int mdo, .int mnu, .ref m7, .ref m8, .ref m9, .ref m10])), (m1, .inl (cI, 24, .inl mvl)), (m2, .inl (cI, 96, .inl mof)), (m3, .inl (cI, 168, .inl mw)), (m4, .inl (cF, 288, .inr (.inr (.inl mf)))), (m5, .inl (cZ, 2, .inl mik)), (m6, .inl (cI, 200, .inl mtx)), (m7, .inl (cI, 56, .inl mwd)), (m8, .inl (cI, 3, .inl msz)), (m9, .inl (cI, 3, .inl mso)), (m10, .inl (cI, 24, .inl mpl))]) ⟨hx, hb, hml, hown, hts⟩ (c_X6_isLetter l D B adK adV cC cF cI cZ cM cS (mtx mbe_85.toNatClampNeg)  r19 hc20) (va_cwS 1 hts gX6_nextToken_X6_isLetter rfl rfl rfl (by decide +kernel) ⟨Nat.le_of_ble_eq_true rfl, Nat.le_of_ble_eq_true rfl⟩) hK hP hD hS hB hE [] rfl rfl rfl rfl rfl hl.1 rfl (Nat.le_of_ble_eq_true rfl) dX6_nextToken_112 ⟨Nat.le_of_ble_eq_true rfl, Nat.le_of_ble_eq_true rfl⟩ (fun H locs hP hD hS => ?_)
          refine W.eq (g2 := F0 m 115 ls [.int r19]) rfl ?_
          refine lv_if_ne (tgt := 140) hx hb dX6_nextToken_115 (by decide) (fun c21 => ?_) (fun c21 => ?_)
          · have hf := if_n c21 hf
            refine lv_aload_n hx hb dX6_nextToken_140 rfl (lv_at hl 1 rfl) ?_
            refine lv_dup hx hb dX6_nextToken_141 rfl ?_
            refine va_get (D := D) (ci := 6) (v := .int mbe_85) (C := RX6) (T := TX6) (N := 23) hx hb hts w0 hown hK hP 0 rfl rfl 13 (by decide) w1 (fun _ h9 => h9) rfl dX6_nextToken_142 ?_
            refine lv_iconst (v := 1) hx hb dX6_nextToken_145 (by decide) ?_
            refine lv_iadd hx hb dX6_nextToken_146 ?_
            refine va_put (D := D) (ci := 6) (v := .int (mbe_85 + 1)) (ty := .int) (C := RX6) (T := TX6) (N := 23) hx hb hts w0 tyX6 tyX6_ok nmX6 hown hK hP hD hS 0 rfl rfl 13 (by decide) w1 (fun _ h9 => h9) rfl (by decide +kernel) rfl rfl (Nat.le_of_ble_eq_true rfl) dX6_nextToken_147 (fun H locs hP hD hS => ?_)
            have hP : va_P D vwCl [(ma, .inr (6, [.int mst, .int mwy, .int mmk, .int mwt, .ref m1, .ref m2, .ref m3, .ref m4, .int mun, .ref m5, .ref m6, .int mln, .int mfi_85, .int (mbe_85 + 1), .int mrs, .int mrw, .int mcl, .int mdo, .int mnu, .ref m7, .ref m8, .ref m9, .ref m10])), (m1, .inl (cI, 24, .inl mvl)), (m2, .inl (cI, 96, .inl mof)), (m3, .inl (cI, 168, .inl mw)), (m4, .inl (cF, 288, .inr (.inr (.inl mf)))), (m5, .inl (cZ, 2, .inl mik)), (m6, .inl (cI, 200, .inl mtx)), (m7, .inl (cI, 56, .inl mwd)), (m8, .inl (cI, 3, .inl msz)), (m9, .inl (cI, 3, .inl mso)), (m10, .inl (cI, 24, .inl mpl))] H := hP
            have hD : va_D A [(ma, .inr (6, [.int mst, .int mwy, .int mmk, .int mwt, .ref m1, .ref m2, .ref m3, .ref m4, .int mun, .ref m5, .ref m6, .int mln, .int mfi_85, .int (mbe_85 + 1), .int mrs, .int mrw, .int mcl, .int mdo, .int mnu, .ref m7, .ref m8, .ref m9, .ref m10])), (m1, .inl (cI, 24, .inl mvl)), (m2, .inl (cI, 96, .inl mof)), (m3, .inl (cI, 168, .inl mw)), (m4, .inl (cF, 288, .inr (.inr (.inl mf)))), (m5, .inl (cZ, 2, .inl mik)), (m6, .inl (cI, 200, .inl mtx)), (m7, .inl (cI, 56, .inl mwd)), (m8, .inl (cI, 3, .inl msz)), (m9, .inl (cI, 3, .inl mso)), (m10, .inl (cI, 24, .inl mpl))] := hD
            refine lv_goto (tgt := 85) hx hb dX6_nextToken_150 (by decide) ?_
            exact ih (mbe_85 + 1) x1_85 mfi_85 oo hf H locs ls hP hD hS (lv_sub hl [0, 1] rfl) kk
          · have hf := if_p c21 hf
            refine lv_iload_n hx hb dX6_nextToken_118 rfl (lv_at hl 0 rfl) ?_
            obtain ⟨r22, hc23, hf⟩ := bd_inv hf
            refine xcS (As := [.int x1_85]) (rest := []) (ws' := [(ma, .inr (6, [.int mst, .int mwy, .int mmk, .int mwt, .ref m1, .ref m2, .ref m3, .ref m4, .int mun, .ref m5, .ref m6, .int mln, .int mfi_85, .int mbe_85, .int mrs, .int mrw, .int mcl, .int mdo, .int mnu, .ref m7, .ref m8, .ref m9, .ref m10])), (m1, .inl (cI, 24, .inl mvl)), (m2, .inl (cI, 96, .inl mof)), (m3, .inl (cI, 168, .inl mw)), (m4, .inl (cF, 288, .inr (.inr (.inl mf)))), (m5, .inl (cZ, 2, .inl mik)), (m6, .inl (cI, 200, .inl mtx)), (m7, .inl (cI, 56, .inl mwd)), (m8, .inl (cI, 3, .inl msz)), (m9, .inl (cI, 3, .inl mso)), (m10, .inl (cI, 24, .inl mpl))]) ⟨hx, hb, hml, hown, hts⟩ (c_X6_isDigit l D B adK adV cC cF cI cZ cM cS x1_85  r22 hc23) (va_cwS 1 hts gX6_nextToken_X6_isDigit rfl rfl rfl (by decide +kernel) ⟨Nat.le_of_ble_eq_true rfl, Nat.le_of_ble_eq_true rfl⟩) hK hP hD hS hB hE [] rfl rfl rfl rfl rfl hl.1 rfl (Nat.le_of_ble_eq_true rfl) dX6_nextToken_119 ⟨Nat.le_of_ble_eq_true rfl, Nat.le_of_ble_eq_true rfl⟩ (fun H locs hP hD hS => ?_)
            refine W.eq (g2 := F0 m 122 ls [.int r22]) rfl ?_
            refine lv_if_eq (tgt := 153) hx hb dX6_nextToken_122 (by decide) (fun c24 => ?_) (fun c24 => ?_)
            · have hf := if_p c24 hf
              have h1 := Option.some.inj hf
              subst h1
              exact kk H locs ls hP hD hS (lv_sub hl [0, 1] rfl)
            · have hf := if_n c24 hf
              refine lv_aload_n hx hb dX6_nextToken_125 rfl (lv_at hl 1 rfl) ?_
              refine va_get (D := D) (ci := 6) (v := .ref m6) (C := RX6) (T := TX6) (N := 23) hx hb hts w0 hown hK hP 0 rfl rfl 10 (by decide) w4 (fun _ h9 => h9) rfl dX6_nextToken_126 ?_
              refine lv_aload_n hx hb dX6_nextToken_129 rfl (lv_at hl 1 rfl) ?_
              refine va_get (D := D) (ci := 6) (v := .int mbe_85) (C := RX6) (T := TX6) (N := 23) hx hb hts w0 hown hK hP 0 rfl rfl 13 (by decide) w1 (fun _ h9 => h9) rfl dX6_nextToken_130 ?_
              obtain ⟨g25, hf⟩ := gd_inv hf
              refine va_iald hx hb hK hP 6 2 rfl rfl g25 dX6_nextToken_133 ?_
              obtain ⟨r26, hc27, hf⟩ := bd_inv hf
              refine xcS (As := [.int (mtx mbe_85.toNatClampNeg)]) (rest := []) (ws' := [(ma, .inr (6, [.int mst, .int mwy, .int mmk, .int mwt, .ref m1, .ref m2, .ref m3, .ref m4, .int mun, .ref m5, .ref m6, .int mln, .int mfi_85, .int mbe_85, .int mrs, .int mrw, .int mcl, .int mdo, .int mnu, .ref m7, .ref m8, .ref m9, .ref m10])), (m1, .inl (cI, 24, .inl mvl)), (m2, .inl (cI, 96, .inl mof)), (m3, .inl (cI, 168, .inl mw)), (m4, .inl (cF, 288, .inr (.inr (.inl mf)))), (m5, .inl (cZ, 2, .inl mik)), (m6, .inl (cI, 200, .inl mtx)), (m7, .inl (cI, 56, .inl mwd)), (m8, .inl (cI, 3, .inl msz)), (m9, .inl (cI, 3, .inl mso)), (m10, .inl (cI, 24, .inl mpl))]) ⟨hx, hb, hml, hown, hts⟩ (c_X6_isDigit l D B adK adV cC cF cI cZ cM cS (mtx mbe_85.toNatClampNeg)  r26 hc27) (va_cwS 1 hts gX6_nextToken_X6_isDigit rfl rfl rfl (by decide +kernel) ⟨Nat.le_of_ble_eq_true rfl, Nat.le_of_ble_eq_true rfl⟩) hK hP hD hS hB hE [] rfl rfl rfl rfl rfl hl.1 rfl (Nat.le_of_ble_eq_true rfl) dX6_nextToken_134 ⟨Nat.le_of_ble_eq_true rfl, Nat.le_of_ble_eq_true rfl⟩ (fun H locs hP hD hS => ?_)
              refine W.eq (g2 := F0 m 137 ls [.int r26]) rfl ?_
              refine lv_if_eq (tgt := 153) hx hb dX6_nextToken_137 (by decide) (fun c28 => ?_) (fun c28 => ?_)
              · have hf := if_p c28 hf
                have h1 := Option.some.inj hf
                subst h1
                exact kk H locs ls hP hD hS (lv_sub hl [0, 1] rfl)
              · have hf := if_n c28 hf
                refine lv_aload_n hx hb dX6_nextToken_140 rfl (lv_at hl 1 rfl) ?_
                refine lv_dup hx hb dX6_nextToken_141 rfl ?_
                refine va_get (D := D) (ci := 6) (v := .int mbe_85) (C := RX6) (T := TX6) (N := 23) hx hb hts w0 hown hK hP 0 rfl rfl 13 (by decide) w1 (fun _ h9 => h9) rfl dX6_nextToken_142 ?_
                refine lv_iconst (v := 1) hx hb dX6_nextToken_145 (by decide) ?_
                refine lv_iadd hx hb dX6_nextToken_146 ?_
                refine va_put (D := D) (ci := 6) (v := .int (mbe_85 + 1)) (ty := .int) (C := RX6) (T := TX6) (N := 23) hx hb hts w0 tyX6 tyX6_ok nmX6 hown hK hP hD hS 0 rfl rfl 13 (by decide) w1 (fun _ h9 => h9) rfl (by decide +kernel) rfl rfl (Nat.le_of_ble_eq_true rfl) dX6_nextToken_147 (fun H locs hP hD hS => ?_)
                have hP : va_P D vwCl [(ma, .inr (6, [.int mst, .int mwy, .int mmk, .int mwt, .ref m1, .ref m2, .ref m3, .ref m4, .int mun, .ref m5, .ref m6, .int mln, .int mfi_85, .int (mbe_85 + 1), .int mrs, .int mrw, .int mcl, .int mdo, .int mnu, .ref m7, .ref m8, .ref m9, .ref m10])), (m1, .inl (cI, 24, .inl mvl)), (m2, .inl (cI, 96, .inl mof)), (m3, .inl (cI, 168, .inl mw)), (m4, .inl (cF, 288, .inr (.inr (.inl mf)))), (m5, .inl (cZ, 2, .inl mik)), (m6, .inl (cI, 200, .inl mtx)), (m7, .inl (cI, 56, .inl mwd)), (m8, .inl (cI, 3, .inl msz)), (m9, .inl (cI, 3, .inl mso)), (m10, .inl (cI, 24, .inl mpl))] H := hP
                have hD : va_D A [(ma, .inr (6, [.int mst, .int mwy, .int mmk, .int mwt, .ref m1, .ref m2, .ref m3, .ref m4, .int mun, .ref m5, .ref m6, .int mln, .int mfi_85, .int (mbe_85 + 1), .int mrs, .int mrw, .int mcl, .int mdo, .int mnu, .ref m7, .ref m8, .ref m9, .ref m10])), (m1, .inl (cI, 24, .inl mvl)), (m2, .inl (cI, 96, .inl mof)), (m3, .inl (cI, 168, .inl mw)), (m4, .inl (cF, 288, .inr (.inr (.inl mf)))), (m5, .inl (cZ, 2, .inl mik)), (m6, .inl (cI, 200, .inl mtx)), (m7, .inl (cI, 56, .inl mwd)), (m8, .inl (cI, 3, .inl msz)), (m9, .inl (cI, 3, .inl mso)), (m10, .inl (cI, 24, .inl mpl))] := hD
                refine lv_goto (tgt := 85) hx hb dX6_nextToken_150 (by decide) ?_
                exact ih (mbe_85 + 1) x1_85 mfi_85 oo hf H locs ls hP hD hS (lv_sub hl [0, 1] rfl) kk
  unfold f_X6_nextToken at hf
  refine lv_aload_n hx hb dX6_nextToken_0 rfl (lv_at hl 0 rfl) ?_
  refine lv_aload_n hx hb dX6_nextToken_1 rfl (lv_at hl 0 rfl) ?_
  refine va_get (D := D) (ci := 6) (v := .int mbe) (C := RX6) (T := TX6) (N := 23) hx hb hts w0 hown hK hP 0 rfl rfl 13 (by decide) w1 (fun _ h9 => h9) rfl dX6_nextToken_2 ?_
  refine va_put (D := D) (ci := 6) (v := .int mbe) (ty := .int) (C := RX6) (T := TX6) (N := 23) hx hb hts w0 tyX6 tyX6_ok nmX6 hown hK hP hD hS 0 rfl rfl 12 (by decide) w2 (fun _ h9 => h9) rfl (by decide +kernel) rfl rfl (Nat.le_of_ble_eq_true rfl) dX6_nextToken_5 (fun H locs hP hD hS => ?_)
  have hP : va_P D vwCl [(ma, .inr (6, [.int mst, .int mwy, .int mmk, .int mwt, .ref m1, .ref m2, .ref m3, .ref m4, .int mun, .ref m5, .ref m6, .int mln, .int mbe, .int mbe, .int mrs, .int mrw, .int mcl, .int mdo, .int mnu, .ref m7, .ref m8, .ref m9, .ref m10])), (m1, .inl (cI, 24, .inl mvl)), (m2, .inl (cI, 96, .inl mof)), (m3, .inl (cI, 168, .inl mw)), (m4, .inl (cF, 288, .inr (.inr (.inl mf)))), (m5, .inl (cZ, 2, .inl mik)), (m6, .inl (cI, 200, .inl mtx)), (m7, .inl (cI, 56, .inl mwd)), (m8, .inl (cI, 3, .inl msz)), (m9, .inl (cI, 3, .inl mso)), (m10, .inl (cI, 24, .inl mpl))] H := hP
  have hD : va_D A [(ma, .inr (6, [.int mst, .int mwy, .int mmk, .int mwt, .ref m1, .ref m2, .ref m3, .ref m4, .int mun, .ref m5, .ref m6, .int mln, .int mbe, .int mbe, .int mrs, .int mrw, .int mcl, .int mdo, .int mnu, .ref m7, .ref m8, .ref m9, .ref m10])), (m1, .inl (cI, 24, .inl mvl)), (m2, .inl (cI, 96, .inl mof)), (m3, .inl (cI, 168, .inl mw)), (m4, .inl (cF, 288, .inr (.inr (.inl mf)))), (m5, .inl (cZ, 2, .inl mik)), (m6, .inl (cI, 200, .inl mtx)), (m7, .inl (cI, 56, .inl mwd)), (m8, .inl (cI, 3, .inl msz)), (m9, .inl (cI, 3, .inl mso)), (m10, .inl (cI, 24, .inl mpl))] := hD
  obtain ⟨q4, hq33, hf⟩ := bd_inv hf
  refine L8 1000 mbe q4 hq33 H locs ls hP hD hS (lv_sub hl [0] rfl) (fun H locs ls hP hD hS hl => ?_)
  have hP : va_P D vwCl [(ma, .inr (6, [.int mst, .int mwy, .int mmk, .int mwt, .ref m1, .ref m2, .ref m3, .ref m4, .int mun, .ref m5, .ref m6, .int mln, .int q4, .int mbe, .int mrs, .int mrw, .int mcl, .int mdo, .int mnu, .ref m7, .ref m8, .ref m9, .ref m10])), (m1, .inl (cI, 24, .inl mvl)), (m2, .inl (cI, 96, .inl mof)), (m3, .inl (cI, 168, .inl mw)), (m4, .inl (cF, 288, .inr (.inr (.inl mf)))), (m5, .inl (cZ, 2, .inl mik)), (m6, .inl (cI, 200, .inl mtx)), (m7, .inl (cI, 56, .inl mwd)), (m8, .inl (cI, 3, .inl msz)), (m9, .inl (cI, 3, .inl mso)), (m10, .inl (cI, 24, .inl mpl))] H := hP
  have hD : va_D A [(ma, .inr (6, [.int mst, .int mwy, .int mmk, .int mwt, .ref m1, .ref m2, .ref m3, .ref m4, .int mun, .ref m5, .ref m6, .int mln, .int q4, .int mbe, .int mrs, .int mrw, .int mcl, .int mdo, .int mnu, .ref m7, .ref m8, .ref m9, .ref m10])), (m1, .inl (cI, 24, .inl mvl)), (m2, .inl (cI, 96, .inl mof)), (m3, .inl (cI, 168, .inl mw)), (m4, .inl (cF, 288, .inr (.inr (.inl mf)))), (m5, .inl (cZ, 2, .inl mik)), (m6, .inl (cI, 200, .inl mtx)), (m7, .inl (cI, 56, .inl mwd)), (m8, .inl (cI, 3, .inl msz)), (m9, .inl (cI, 3, .inl mso)), (m10, .inl (cI, 24, .inl mpl))] := hD
  have hl : lv_has ls 2 [(0, .ref ma)] := hl
  refine lv_aload_n hx hb dX6_nextToken_46 rfl (lv_at hl 0 rfl) ?_
  refine lv_aload_n hx hb dX6_nextToken_47 rfl (lv_at hl 0 rfl) ?_
  refine va_get (D := D) (ci := 6) (v := .int q4) (C := RX6) (T := TX6) (N := 23) hx hb hts w0 hown hK hP 0 rfl rfl 12 (by decide) w2 (fun _ h9 => h9) rfl dX6_nextToken_48 ?_
  refine va_put (D := D) (ci := 6) (v := .int q4) (ty := .int) (C := RX6) (T := TX6) (N := 23) hx hb hts w0 tyX6 tyX6_ok nmX6 hown hK hP hD hS 0 rfl rfl 13 (by decide) w1 (fun _ h9 => h9) rfl (by decide +kernel) rfl rfl (Nat.le_of_ble_eq_true rfl) dX6_nextToken_51 (fun H locs hP hD hS => ?_)
  have hP : va_P D vwCl [(ma, .inr (6, [.int mst, .int mwy, .int mmk, .int mwt, .ref m1, .ref m2, .ref m3, .ref m4, .int mun, .ref m5, .ref m6, .int mln, .int q4, .int q4, .int mrs, .int mrw, .int mcl, .int mdo, .int mnu, .ref m7, .ref m8, .ref m9, .ref m10])), (m1, .inl (cI, 24, .inl mvl)), (m2, .inl (cI, 96, .inl mof)), (m3, .inl (cI, 168, .inl mw)), (m4, .inl (cF, 288, .inr (.inr (.inl mf)))), (m5, .inl (cZ, 2, .inl mik)), (m6, .inl (cI, 200, .inl mtx)), (m7, .inl (cI, 56, .inl mwd)), (m8, .inl (cI, 3, .inl msz)), (m9, .inl (cI, 3, .inl mso)), (m10, .inl (cI, 24, .inl mpl))] H := hP
  have hD : va_D A [(ma, .inr (6, [.int mst, .int mwy, .int mmk, .int mwt, .ref m1, .ref m2, .ref m3, .ref m4, .int mun, .ref m5, .ref m6, .int mln, .int q4, .int q4, .int mrs, .int mrw, .int mcl, .int mdo, .int mnu, .ref m7, .ref m8, .ref m9, .ref m10])), (m1, .inl (cI, 24, .inl mvl)), (m2, .inl (cI, 96, .inl mof)), (m3, .inl (cI, 168, .inl mw)), (m4, .inl (cF, 288, .inr (.inr (.inl mf)))), (m5, .inl (cZ, 2, .inl mik)), (m6, .inl (cI, 200, .inl mtx)), (m7, .inl (cI, 56, .inl mwd)), (m8, .inl (cI, 3, .inl msz)), (m9, .inl (cI, 3, .inl mso)), (m10, .inl (cI, 24, .inl mpl))] := hD
  refine lv_aload_n hx hb dX6_nextToken_54 rfl (lv_at hl 0 rfl) ?_
  refine va_get (D := D) (ci := 6) (v := .int q4) (C := RX6) (T := TX6) (N := 23) hx hb hts w0 hown hK hP 0 rfl rfl 12 (by decide) w2 (fun _ h9 => h9) rfl dX6_nextToken_55 ?_
  refine lv_aload_n hx hb dX6_nextToken_58 rfl (lv_at hl 0 rfl) ?_
  refine va_get (D := D) (ci := 6) (v := .int mln) (C := RX6) (T := TX6) (N := 23) hx hb hts w0 hown hK hP 0 rfl rfl 11 (by decide) w3 (fun _ h9 => h9) rfl dX6_nextToken_59 ?_
  refine lv_icmp_ge (tgt := 153) hx hb dX6_nextToken_62 (by decide) (fun c5 => ?_) (fun c5 => ?_)
  · have hf := if_p c5 hf
    have h1 := Option.some.inj hf
    subst h1
    rw [hQ]
    exact W.vret hx hb hr (fun t ht hW => qEnd hP hS ht) hS.2.2 dX6_nextToken_153
  · have hf := if_n c5 hf
    refine lv_aload_n hx hb dX6_nextToken_65 rfl (lv_at hl 0 rfl) ?_
    refine va_get (D := D) (ci := 6) (v := .ref m6) (C := RX6) (T := TX6) (N := 23) hx hb hts w0 hown hK hP 0 rfl rfl 10 (by decide) w4 (fun _ h9 => h9) rfl dX6_nextToken_66 ?_
    refine lv_aload_n hx hb dX6_nextToken_69 rfl (lv_at hl 0 rfl) ?_
    refine va_get (D := D) (ci := 6) (v := .int q4) (C := RX6) (T := TX6) (N := 23) hx hb hts w0 hown hK hP 0 rfl rfl 12 (by decide) w2 (fun _ h9 => h9) rfl dX6_nextToken_70 ?_
    obtain ⟨g6, hf⟩ := gd_inv hf
    refine va_iald hx hb hK hP 6 2 rfl rfl g6 dX6_nextToken_73 ?_
    refine lv_istore_n (lv' := [(1, .int (mtx q4.toNatClampNeg)), (0, .ref ma)]) hx hb dX6_nextToken_74 rfl hl (by decide) rfl (fun ls hl => ?_)
    refine lv_aload_n hx hb dX6_nextToken_75 rfl (lv_at hl 1 rfl) ?_
    refine lv_dup hx hb dX6_nextToken_76 rfl ?_
    refine va_get (D := D) (ci := 6) (v := .int q4) (C := RX6) (T := TX6) (N := 23) hx hb hts w0 hown hK hP 0 rfl rfl 13 (by decide) w1 (fun _ h9 => h9) rfl dX6_nextToken_77 ?_
    refine lv_iconst (v := 1) hx hb dX6_nextToken_80 (by decide) ?_
    refine lv_iadd hx hb dX6_nextToken_81 ?_
    refine va_put (D := D) (ci := 6) (v := .int (q4 + 1)) (ty := .int) (C := RX6) (T := TX6) (N := 23) hx hb hts w0 tyX6 tyX6_ok nmX6 hown hK hP hD hS 0 rfl rfl 13 (by decide) w1 (fun _ h9 => h9) rfl (by decide +kernel) rfl rfl (Nat.le_of_ble_eq_true rfl) dX6_nextToken_82 (fun H locs hP hD hS => ?_)
    have hP : va_P D vwCl [(ma, .inr (6, [.int mst, .int mwy, .int mmk, .int mwt, .ref m1, .ref m2, .ref m3, .ref m4, .int mun, .ref m5, .ref m6, .int mln, .int q4, .int (q4 + 1), .int mrs, .int mrw, .int mcl, .int mdo, .int mnu, .ref m7, .ref m8, .ref m9, .ref m10])), (m1, .inl (cI, 24, .inl mvl)), (m2, .inl (cI, 96, .inl mof)), (m3, .inl (cI, 168, .inl mw)), (m4, .inl (cF, 288, .inr (.inr (.inl mf)))), (m5, .inl (cZ, 2, .inl mik)), (m6, .inl (cI, 200, .inl mtx)), (m7, .inl (cI, 56, .inl mwd)), (m8, .inl (cI, 3, .inl msz)), (m9, .inl (cI, 3, .inl mso)), (m10, .inl (cI, 24, .inl mpl))] H := hP
    have hD : va_D A [(ma, .inr (6, [.int mst, .int mwy, .int mmk, .int mwt, .ref m1, .ref m2, .ref m3, .ref m4, .int mun, .ref m5, .ref m6, .int mln, .int q4, .int (q4 + 1), .int mrs, .int mrw, .int mcl, .int mdo, .int mnu, .ref m7, .ref m8, .ref m9, .ref m10])), (m1, .inl (cI, 24, .inl mvl)), (m2, .inl (cI, 96, .inl mof)), (m3, .inl (cI, 168, .inl mw)), (m4, .inl (cF, 288, .inr (.inr (.inl mf)))), (m5, .inl (cZ, 2, .inl mik)), (m6, .inl (cI, 200, .inl mtx)), (m7, .inl (cI, 56, .inl mwd)), (m8, .inl (cI, 3, .inl msz)), (m9, .inl (cI, 3, .inl mso)), (m10, .inl (cI, 24, .inl mpl))] := hD
    obtain ⟨⟨q29, q30, q31⟩, hq32, hf⟩ := bd_inv hf
    refine L85 1000 (q4 + 1) (mtx q4.toNatClampNeg) q4 (q29, q30, q31) hq32 H locs ls hP hD hS (lv_sub hl [0, 1] rfl) (fun H locs ls hP hD hS hl => ?_)
    have hP : va_P D vwCl [(ma, .inr (6, [.int mst, .int mwy, .int mmk, .int mwt, .ref m1, .ref m2, .ref m3, .ref m4, .int mun, .ref m5, .ref m6, .int mln, .int q31, .int q29, .int mrs, .int mrw, .int mcl, .int mdo, .int mnu, .ref m7, .ref m8, .ref m9, .ref m10])), (m1, .inl (cI, 24, .inl mvl)), (m2, .inl (cI, 96, .inl mof)), (m3, .inl (cI, 168, .inl mw)), (m4, .inl (cF, 288, .inr (.inr (.inl mf)))), (m5, .inl (cZ, 2, .inl mik)), (m6, .inl (cI, 200, .inl mtx)), (m7, .inl (cI, 56, .inl mwd)), (m8, .inl (cI, 3, .inl msz)), (m9, .inl (cI, 3, .inl mso)), (m10, .inl (cI, 24, .inl mpl))] H := hP
    have hD : va_D A [(ma, .inr (6, [.int mst, .int mwy, .int mmk, .int mwt, .ref m1, .ref m2, .ref m3, .ref m4, .int mun, .ref m5, .ref m6, .int mln, .int q31, .int q29, .int mrs, .int mrw, .int mcl, .int mdo, .int mnu, .ref m7, .ref m8, .ref m9, .ref m10])), (m1, .inl (cI, 24, .inl mvl)), (m2, .inl (cI, 96, .inl mof)), (m3, .inl (cI, 168, .inl mw)), (m4, .inl (cF, 288, .inr (.inr (.inl mf)))), (m5, .inl (cZ, 2, .inl mik)), (m6, .inl (cI, 200, .inl mtx)), (m7, .inl (cI, 56, .inl mwd)), (m8, .inl (cI, 3, .inl msz)), (m9, .inl (cI, 3, .inl mso)), (m10, .inl (cI, 24, .inl mpl))] := hD
    have hl : lv_has ls 2 [(1, .int q30), (0, .ref ma)] := hl
    have h1 := Option.some.inj hf
    subst h1
    rw [hQ]
    exact W.vret hx hb hr (fun t ht hW => qEnd hP hS ht) hS.2.2 dX6_nextToken_153
set_option maxRecDepth 100000 in
set_option maxHeartbeats 4000000 in
theorem c_X6_wordHere (l : Launch) (D : va_G) (B : Nat) (adK adV : Nat → Nat) (cC cF cI cZ cM cS : ClassId) (ma : Nat) (mst : Int32) (mwy : Int32) (mmk : Int32) (mwt : Int32) (m1 : Nat) (m2 : Nat) (m3 : Nat) (m4 : Nat) (mun : Int32) (m5 : Nat) (m6 : Nat) (mln : Int32) (mfi : Int32) (mbe : Int32) (mrs : Int32) (mrw : Int32) (mcl : Int32) (mdo : Int32) (mnu : Int32) (m7 : Nat) (m8 : Nat) (m9 : Nat) (m10 : Nat) (mvl : Nat → Int32) (mof : Nat → Int32) (mw : Nat → Int32) (mf : Nat → UInt32) (mik : Nat → Int32) (mtx : Nat → Int32) (mwd : Nat → Int32) (msz : Nat → Int32) (mso : Nat → Int32) (mpl : Nat → Int32) (i : Int32) (k : Int32) (zz : Int32) (hf : f_X6_wordHere mln mfi mbe mtx mwd i k = some zz) : Ct l yX6_wordHere wsX6_wordHere { frames := 0, cells := 0, slots := 0, locals := 0 } D B adK adV (tysX cC cF cI cZ cM cS) [.ref ma, .int i, .int k] [(ma, .inr (6, [.int mst, .int mwy, .int mmk, .int mwt, .ref m1, .ref m2, .ref m3, .ref m4, .int mun, .ref m5, .ref m6, .int mln, .int mfi, .int mbe, .int mrs, .int mrw, .int mcl, .int mdo, .int mnu, .ref m7, .ref m8, .ref m9, .ref m10])), (m1, .inl (cI, 24, .inl mvl)), (m2, .inl (cI, 96, .inl mof)), (m3, .inl (cI, 168, .inl mw)), (m4, .inl (cF, 288, .inr (.inr (.inl mf)))), (m5, .inl (cZ, 2, .inl mik)), (m6, .inl (cI, 200, .inl mtx)), (m7, .inl (cI, 56, .inl mwd)), (m8, .inl (cI, 3, .inl msz)), (m9, .inl (cI, 3, .inl mso)), (m10, .inl (cI, 24, .inl mpl))] [(ma, .inr (6, [.int mst, .int mwy, .int mmk, .int mwt, .ref m1, .ref m2, .ref m3, .ref m4, .int mun, .ref m5, .ref m6, .int mln, .int mfi, .int mbe, .int mrs, .int mrw, .int mcl, .int mdo, .int mnu, .ref m7, .ref m8, .ref m9, .ref m10])), (m1, .inl (cI, 24, .inl mvl)), (m2, .inl (cI, 96, .inl mof)), (m3, .inl (cI, 168, .inl mw)), (m4, .inl (cF, 288, .inr (.inr (.inl mf)))), (m5, .inl (cZ, 2, .inl mik)), (m6, .inl (cI, 200, .inl mtx)), (m7, .inl (cI, 56, .inl mwd)), (m8, .inl (cI, 3, .inl msz)), (m9, .inl (cI, 3, .inl mso)), (m10, .inl (cI, 24, .inl mpl))] (some (.int zz)) := by
  refine Ct.ofW (cc := cX6_wordHere) (maxL := 8) (ret := (some .int)) (by decide) rfl (Nat.le_of_ble_eq_true rfl) ?_
  intro p e s m args below meth c hx hb hr hml hts hown hlocks hnm hK hE A Q hQ hB H locs ls hP hD hS hl
  have hl : lv_has ls 8 [(0, .ref ma), (1, .int i), (2, .int k)] := hl
  have w0 : ∀ w ∈ u_ws RX6 TX6 23, w ∈ wsX6_wordHere := by decide +kernel
  have w1 := hts (.fieldLink RX6 72 "MotionStatesModel" "first" "I") (by decide +kernel)
  have w2 := hts (.fieldLink RX6 58 "MotionStatesModel" "length" "I") (by decide +kernel)
  have w3 := hts (.fieldLink RX6 34 "MotionStatesModel" "words" "[I") (by decide +kernel)
  have w4 := hts (.fieldLink RX6 69 "MotionStatesModel" "behind" "I") (by decide +kernel)
  have w5 := hts (.fieldLink RX6 31 "MotionStatesModel" "text" "[I") (by decide +kernel)
  have L37 : ∀ (n : Nat) (x6_37 : Int32) (x7_37 : Int32) (x5_37 : Int32) (x4_37 : Int32) (x3_37 : Int32) (oo : Int32 × Int32 × Int32 × Int32 × Int32), f_X6_wordHere_L37 mwd mbe mfi mtx n x6_37 x7_37 x5_37 x4_37 x3_37 = some oo → ∀ (H : Heap) (locs : List Loc) (ls : Array Slot), va_P D vwCl [(ma, .inr (6, [.int mst, .int mwy, .int mmk, .int mwt, .ref m1, .ref m2, .ref m3, .ref m4, .int mun, .ref m5, .ref m6, .int mln, .int mfi, .int mbe, .int mrs, .int mrw, .int mcl, .int mdo, .int mnu, .ref m7, .ref m8, .ref m9, .ref m10])), (m1, .inl (cI, 24, .inl mvl)), (m2, .inl (cI, 96, .inl mof)), (m3, .inl (cI, 168, .inl mw)), (m4, .inl (cF, 288, .inr (.inr (.inl mf)))), (m5, .inl (cZ, 2, .inl mik)), (m6, .inl (cI, 200, .inl mtx)), (m7, .inl (cI, 56, .inl mwd)), (m8, .inl (cI, 3, .inl msz)), (m9, .inl (cI, 3, .inl mso)), (m10, .inl (cI, 24, .inl mpl))] H → va_D A [(ma, .inr (6, [.int mst, .int mwy, .int mmk, .int mwt, .ref m1, .ref m2, .ref m3, .ref m4, .int mun, .ref m5, .ref m6, .int mln, .int mfi, .int mbe, .int mrs, .int mrw, .int mcl, .int mdo, .int mnu, .ref m7, .ref m8, .ref m9, .ref m10])), (m1, .inl (cI, 24, .inl mvl)), (m2, .inl (cI, 96, .inl mof)), (m3, .inl (cI, 168, .inl mw)), (m4, .inl (cF, 288, .inr (.inr (.inl mf)))), (m5, .inl (cZ, 2, .inl mik)), (m6, .inl (cI, 200, .inl mtx)), (m7, .inl (cI, 56, .inl mwd)), (m8, .inl (cI, 3, .inl msz)), (m9, .inl (cI, 3, .inl mso)), (m10, .inl (cI, 24, .inl mpl))] → va_S A s.heap H locs → lv_has ls 8 [(7, .int x7_37), (6, .int x6_37), (5, .int x5_37), (4, .int x4_37), (3, .int x3_37), (0, .ref ma), (1, .int i), (2, .int k)] → (∀ (H : Heap) (locs : List Loc) (ls : Array Slot), va_P D vwCl [(ma, .inr (6, [.int mst, .int mwy, .int mmk, .int mwt, .ref m1, .ref m2, .ref m3, .ref m4, .int mun, .ref m5, .ref m6, .int mln, .int mfi, .int mbe, .int mrs, .int mrw, .int mcl, .int mdo, .int mnu, .ref m7, .ref m8, .ref m9, .ref m10])), (m1, .inl (cI, 24, .inl mvl)), (m2, .inl (cI, 96, .inl mof)), (m3, .inl (cI, 168, .inl mw)), (m4, .inl (cF, 288, .inr (.inr (.inl mf)))), (m5, .inl (cZ, 2, .inl mik)), (m6, .inl (cI, 200, .inl mtx)), (m7, .inl (cI, 56, .inl mwd)), (m8, .inl (cI, 3, .inl msz)), (m9, .inl (cI, 3, .inl mso)), (m10, .inl (cI, 24, .inl mpl))] H → va_D A [(ma, .inr (6, [.int mst, .int mwy, .int mmk, .int mwt, .ref m1, .ref m2, .ref m3, .ref m4, .int mun, .ref m5, .ref m6, .int mln, .int mfi, .int mbe, .int mrs, .int mrw, .int mcl, .int mdo, .int mnu, .ref m7, .ref m8, .ref m9, .ref m10])), (m1, .inl (cI, 24, .inl mvl)), (m2, .inl (cI, 96, .inl mof)), (m3, .inl (cI, 168, .inl mw)), (m4, .inl (cF, 288, .inr (.inr (.inl mf)))), (m5, .inl (cZ, 2, .inl mik)), (m6, .inl (cI, 200, .inl mtx)), (m7, .inl (cI, 56, .inl mwd)), (m8, .inl (cI, 3, .inl msz)), (m9, .inl (cI, 3, .inl mso)), (m10, .inl (cI, 24, .inl mpl))] → va_S A s.heap H locs → lv_has ls 8 [(7, .int oo.1), (6, .int oo.2.1), (5, .int oo.2.2.1), (4, .int oo.2.2.2.1), (3, .int oo.2.2.2.2), (0, .ref ma), (1, .int i), (2, .int k)] → W p l e { frames := 0, cells := 0, slots := 0, locals := 0 } s m args below meth c H locs 0 0 Q (F0 m 109 ls [])) → W p l e { frames := 0, cells := 0, slots := 0, locals := 0 } s m args below meth c H locs 0 0 Q (F0 m 37 ls []) := by
    intro n
    induction n with
    | zero => intro x6_37 x7_37 x5_37 x4_37 x3_37 oo hf; exact absurd hf (by simp [f_X6_wordHere_L37])
    | succ n ih =>
      intro x6_37 x7_37 x5_37 x4_37 x3_37 oo hf H locs ls hP hD hS hl kk
      rw [f_X6_wordHere_L37] at hf
      refine lv_aload_n hx hb dX6_wordHere_37 rfl (lv_at hl 5 rfl) ?_
      refine va_get (D := D) (ci := 6) (v := .ref m7) (C := RX6) (T := TX6) (N := 23) hx hb hts w0 hown hK hP 0 rfl rfl 19 (by decide) w3 (fun _ h9 => h9) rfl dX6_wordHere_38 ?_
      refine lv_iload hx hb dX6_wordHere_41 (lv_at hl 3 rfl) ?_
      refine lv_iload hx hb dX6_wordHere_43 (lv_at hl 1 rfl) ?_
      refine lv_iadd hx hb dX6_wordHere_45 ?_
      obtain ⟨g3, hf⟩ := gd_inv hf
      refine va_iald hx hb hK hP 7 2 rfl rfl g3 dX6_wordHere_46 ?_
      refine lv_bipush (v := 32) hx hb dX6_wordHere_47 (by decide) ?_
      refine lv_icmp_eq (tgt := 109) hx hb dX6_wordHere_49 (by decide) (fun c4 => ?_) (fun c4 => ?_)
      · have hf := if_p c4 hf
        have h1 := Option.some.inj hf
        subst h1
        exact kk H locs ls hP hD hS (lv_sub hl [0, 1, 2, 3, 4, 5, 6, 7] rfl)
      · have hf := if_n c4 hf
        refine lv_iload hx hb dX6_wordHere_52 (lv_at hl 0 rfl) ?_
        refine lv_if_eq (tgt := 100) hx hb dX6_wordHere_54 (by decide) (fun c5 => ?_) (fun c5 => ?_)
        · have hf := if_p c5 hf
          refine lv_iconst (v := 0) hx hb dX6_wordHere_100 (by decide) ?_
          refine lv_istore (lv' := [(7, .int 0), (6, .int x6_37), (5, .int x5_37), (4, .int x4_37), (3, .int x3_37), (0, .ref ma), (1, .int i), (2, .int k)]) hx hb dX6_wordHere_101 hl (by decide) rfl (fun ls hl => ?_)
          refine lv_iinc (v := x6_37 + 1) (lv' := [(6, .int (x6_37 + 1)), (7, .int 0), (5, .int x5_37), (4, .int x4_37), (3, .int x3_37), (0, .ref ma), (1, .int i), (2, .int k)]) hx hb dX6_wordHere_103 hl (k := 1) rfl rfl (by decide) rfl (fun ls hl => ?_)
          refine lv_goto (tgt := 37) hx hb dX6_wordHere_106 (by decide) ?_
          exact ih (x6_37 + 1) 0 x5_37 x4_37 x3_37 oo hf H locs ls hP hD hS (lv_sub hl [1, 0, 2, 3, 4, 5, 6, 7] rfl) kk
        · have hf := if_n c5 hf
          refine lv_aload_n hx hb dX6_wordHere_57 rfl (lv_at hl 5 rfl) ?_
          refine va_get (D := D) (ci := 6) (v := .int mfi) (C := RX6) (T := TX6) (N := 23) hx hb hts w0 hown hK hP 0 rfl rfl 12 (by decide) w1 (fun _ h9 => h9) rfl dX6_wordHere_58 ?_
          refine lv_iload hx hb dX6_wordHere_61 (lv_at hl 1 rfl) ?_
          refine lv_iadd hx hb dX6_wordHere_63 ?_
          refine lv_aload_n hx hb dX6_wordHere_64 rfl (lv_at hl 5 rfl) ?_
          refine va_get (D := D) (ci := 6) (v := .int mbe) (C := RX6) (T := TX6) (N := 23) hx hb hts w0 hown hK hP 0 rfl rfl 13 (by decide) w4 (fun _ h9 => h9) rfl dX6_wordHere_65 ?_
          refine lv_icmp_ge (tgt := 100) hx hb dX6_wordHere_68 (by decide) (fun c6 => ?_) (fun c6 => ?_)
          · have hf := if_p c6 hf
            refine lv_iconst (v := 0) hx hb dX6_wordHere_100 (by decide) ?_
            refine lv_istore (lv' := [(7, .int 0), (6, .int x6_37), (5, .int x5_37), (4, .int x4_37), (3, .int x3_37), (0, .ref ma), (1, .int i), (2, .int k)]) hx hb dX6_wordHere_101 hl (by decide) rfl (fun ls hl => ?_)
            refine lv_iinc (v := x6_37 + 1) (lv' := [(6, .int (x6_37 + 1)), (7, .int 0), (5, .int x5_37), (4, .int x4_37), (3, .int x3_37), (0, .ref ma), (1, .int i), (2, .int k)]) hx hb dX6_wordHere_103 hl (k := 1) rfl rfl (by decide) rfl (fun ls hl => ?_)
            refine lv_goto (tgt := 37) hx hb dX6_wordHere_106 (by decide) ?_
            exact ih (x6_37 + 1) 0 x5_37 x4_37 x3_37 oo hf H locs ls hP hD hS (lv_sub hl [1, 0, 2, 3, 4, 5, 6, 7] rfl) kk
          · have hf := if_n c6 hf
            refine lv_aload_n hx hb dX6_wordHere_71 rfl (lv_at hl 5 rfl) ?_
            refine va_get (D := D) (ci := 6) (v := .ref m6) (C := RX6) (T := TX6) (N := 23) hx hb hts w0 hown hK hP 0 rfl rfl 10 (by decide) w5 (fun _ h9 => h9) rfl dX6_wordHere_72 ?_
            refine lv_aload_n hx hb dX6_wordHere_75 rfl (lv_at hl 5 rfl) ?_
            refine va_get (D := D) (ci := 6) (v := .int mfi) (C := RX6) (T := TX6) (N := 23) hx hb hts w0 hown hK hP 0 rfl rfl 12 (by decide) w1 (fun _ h9 => h9) rfl dX6_wordHere_76 ?_
            refine lv_iload hx hb dX6_wordHere_79 (lv_at hl 1 rfl) ?_
            refine lv_iadd hx hb dX6_wordHere_81 ?_
            obtain ⟨g7, hf⟩ := gd_inv hf
            refine va_iald hx hb hK hP 6 2 rfl rfl g7 dX6_wordHere_82 ?_
            refine lv_aload_n hx hb dX6_wordHere_83 rfl (lv_at hl 5 rfl) ?_
            refine va_get (D := D) (ci := 6) (v := .ref m7) (C := RX6) (T := TX6) (N := 23) hx hb hts w0 hown hK hP 0 rfl rfl 19 (by decide) w3 (fun _ h9 => h9) rfl dX6_wordHere_84 ?_
            refine lv_iload hx hb dX6_wordHere_87 (lv_at hl 3 rfl) ?_
            refine lv_iload hx hb dX6_wordHere_89 (lv_at hl 1 rfl) ?_
            refine lv_iadd hx hb dX6_wordHere_91 ?_
            obtain ⟨g8, hf⟩ := gd_inv hf
            refine va_iald hx hb hK hP 7 2 rfl rfl g8 dX6_wordHere_92 ?_
            refine lv_icmp_ne (tgt := 100) hx hb dX6_wordHere_93 (by decide) (fun c9 => ?_) (fun c9 => ?_)
            · have hf := if_n c9 hf
              refine lv_iconst (v := 0) hx hb dX6_wordHere_100 (by decide) ?_
              refine lv_istore (lv' := [(7, .int 0), (6, .int x6_37), (5, .int x5_37), (4, .int x4_37), (3, .int x3_37), (0, .ref ma), (1, .int i), (2, .int k)]) hx hb dX6_wordHere_101 hl (by decide) rfl (fun ls hl => ?_)
              refine lv_iinc (v := x6_37 + 1) (lv' := [(6, .int (x6_37 + 1)), (7, .int 0), (5, .int x5_37), (4, .int x4_37), (3, .int x3_37), (0, .ref ma), (1, .int i), (2, .int k)]) hx hb dX6_wordHere_103 hl (k := 1) rfl rfl (by decide) rfl (fun ls hl => ?_)
              refine lv_goto (tgt := 37) hx hb dX6_wordHere_106 (by decide) ?_
              exact ih (x6_37 + 1) 0 x5_37 x4_37 x3_37 oo hf H locs ls hP hD hS (lv_sub hl [1, 0, 2, 3, 4, 5, 6, 7] rfl) kk
            · have hf := if_p c9 hf
              refine lv_iconst (v := 1) hx hb dX6_wordHere_96 (by decide) ?_
              refine lv_goto (tgt := 101) hx hb dX6_wordHere_97 (by decide) ?_
              refine lv_istore (lv' := [(7, .int 1), (6, .int x6_37), (5, .int x5_37), (4, .int x4_37), (3, .int x3_37), (0, .ref ma), (1, .int i), (2, .int k)]) hx hb dX6_wordHere_101 hl (by decide) rfl (fun ls hl => ?_)
              refine lv_iinc (v := x6_37 + 1) (lv' := [(6, .int (x6_37 + 1)), (7, .int 1), (5, .int x5_37), (4, .int x4_37), (3, .int x3_37), (0, .ref ma), (1, .int i), (2, .int k)]) hx hb dX6_wordHere_103 hl (k := 1) rfl rfl (by decide) rfl (fun ls hl => ?_)
              refine lv_goto (tgt := 37) hx hb dX6_wordHere_106 (by decide) ?_
              exact ih (x6_37 + 1) 1 x5_37 x4_37 x3_37 oo hf H locs ls hP hD hS (lv_sub hl [1, 0, 2, 3, 4, 5, 6, 7] rfl) kk
  have L8 : ∀ (n : Nat) (x5_8 : Int32) (x4_8 : Int32) (x3_8 : Int32) (oo : Int32 × Int32 × Int32), f_X6_wordHere_L8 i k mln mfi mwd mbe mtx n x5_8 x4_8 x3_8 = some oo → ∀ (H : Heap) (locs : List Loc) (ls : Array Slot), va_P D vwCl [(ma, .inr (6, [.int mst, .int mwy, .int mmk, .int mwt, .ref m1, .ref m2, .ref m3, .ref m4, .int mun, .ref m5, .ref m6, .int mln, .int mfi, .int mbe, .int mrs, .int mrw, .int mcl, .int mdo, .int mnu, .ref m7, .ref m8, .ref m9, .ref m10])), (m1, .inl (cI, 24, .inl mvl)), (m2, .inl (cI, 96, .inl mof)), (m3, .inl (cI, 168, .inl mw)), (m4, .inl (cF, 288, .inr (.inr (.inl mf)))), (m5, .inl (cZ, 2, .inl mik)), (m6, .inl (cI, 200, .inl mtx)), (m7, .inl (cI, 56, .inl mwd)), (m8, .inl (cI, 3, .inl msz)), (m9, .inl (cI, 3, .inl mso)), (m10, .inl (cI, 24, .inl mpl))] H → va_D A [(ma, .inr (6, [.int mst, .int mwy, .int mmk, .int mwt, .ref m1, .ref m2, .ref m3, .ref m4, .int mun, .ref m5, .ref m6, .int mln, .int mfi, .int mbe, .int mrs, .int mrw, .int mcl, .int mdo, .int mnu, .ref m7, .ref m8, .ref m9, .ref m10])), (m1, .inl (cI, 24, .inl mvl)), (m2, .inl (cI, 96, .inl mof)), (m3, .inl (cI, 168, .inl mw)), (m4, .inl (cF, 288, .inr (.inr (.inl mf)))), (m5, .inl (cZ, 2, .inl mik)), (m6, .inl (cI, 200, .inl mtx)), (m7, .inl (cI, 56, .inl mwd)), (m8, .inl (cI, 3, .inl msz)), (m9, .inl (cI, 3, .inl mso)), (m10, .inl (cI, 24, .inl mpl))] → va_S A s.heap H locs → lv_has ls 8 [(5, .int x5_8), (4, .int x4_8), (3, .int x3_8), (0, .ref ma), (1, .int i), (2, .int k)] → (∀ (H : Heap) (locs : List Loc) (ls : Array Slot), va_P D vwCl [(ma, .inr (6, [.int mst, .int mwy, .int mmk, .int mwt, .ref m1, .ref m2, .ref m3, .ref m4, .int mun, .ref m5, .ref m6, .int mln, .int mfi, .int mbe, .int mrs, .int mrw, .int mcl, .int mdo, .int mnu, .ref m7, .ref m8, .ref m9, .ref m10])), (m1, .inl (cI, 24, .inl mvl)), (m2, .inl (cI, 96, .inl mof)), (m3, .inl (cI, 168, .inl mw)), (m4, .inl (cF, 288, .inr (.inr (.inl mf)))), (m5, .inl (cZ, 2, .inl mik)), (m6, .inl (cI, 200, .inl mtx)), (m7, .inl (cI, 56, .inl mwd)), (m8, .inl (cI, 3, .inl msz)), (m9, .inl (cI, 3, .inl mso)), (m10, .inl (cI, 24, .inl mpl))] H → va_D A [(ma, .inr (6, [.int mst, .int mwy, .int mmk, .int mwt, .ref m1, .ref m2, .ref m3, .ref m4, .int mun, .ref m5, .ref m6, .int mln, .int mfi, .int mbe, .int mrs, .int mrw, .int mcl, .int mdo, .int mnu, .ref m7, .ref m8, .ref m9, .ref m10])), (m1, .inl (cI, 24, .inl mvl)), (m2, .inl (cI, 96, .inl mof)), (m3, .inl (cI, 168, .inl mw)), (m4, .inl (cF, 288, .inr (.inr (.inl mf)))), (m5, .inl (cZ, 2, .inl mik)), (m6, .inl (cI, 200, .inl mtx)), (m7, .inl (cI, 56, .inl mwd)), (m8, .inl (cI, 3, .inl msz)), (m9, .inl (cI, 3, .inl mso)), (m10, .inl (cI, 24, .inl mpl))] → va_S A s.heap H locs → lv_has ls 8 [(5, .int oo.1), (4, .int oo.2.1), (3, .int oo.2.2), (0, .ref ma), (1, .int i), (2, .int k)] → W p l e { frames := 0, cells := 0, slots := 0, locals := 0 } s m args below meth c H locs 0 0 Q (F0 m 158 ls [])) → W p l e { frames := 0, cells := 0, slots := 0, locals := 0 } s m args below meth c H locs 0 0 Q (F0 m 8 ls []) := by
    intro n
    induction n with
    | zero => intro x5_8 x4_8 x3_8 oo hf; exact absurd hf (by simp [f_X6_wordHere_L8])
    | succ n ih =>
      intro x5_8 x4_8 x3_8 oo hf H locs ls hP hD hS hl kk
      rw [f_X6_wordHere_L8] at hf
      refine lv_iload hx hb dX6_wordHere_8 (lv_at hl 0 rfl) ?_
      refine lv_iload_n hx hb dX6_wordHere_10 rfl (lv_at hl 4 rfl) ?_
      refine lv_iload_n hx hb dX6_wordHere_11 rfl (lv_at hl 5 rfl) ?_
      refine lv_iadd hx hb dX6_wordHere_12 ?_
      refine lv_icmp_ge (tgt := 158) hx hb dX6_wordHere_13 (by decide) (fun c1 => ?_) (fun c1 => ?_)
      · have hf := if_p c1 hf
        have h1 := Option.some.inj hf
        subst h1
        exact kk H locs ls hP hD hS (lv_sub hl [0, 1, 2, 3, 4, 5] rfl)
      · have hf := if_n c1 hf
        refine lv_iconst (v := 0) hx hb dX6_wordHere_16 (by decide) ?_
        refine lv_istore (lv' := [(6, .int 0), (5, .int x5_8), (4, .int x4_8), (3, .int x3_8), (0, .ref ma), (1, .int i), (2, .int k)]) hx hb dX6_wordHere_17 hl (by decide) rfl (fun ls hl => ?_)
        refine lv_aload_n hx hb dX6_wordHere_19 rfl (lv_at hl 4 rfl) ?_
        refine va_get (D := D) (ci := 6) (v := .int mfi) (C := RX6) (T := TX6) (N := 23) hx hb hts w0 hown hK hP 0 rfl rfl 12 (by decide) w1 (fun _ h9 => h9) rfl dX6_wordHere_20 ?_
        refine lv_aload_n hx hb dX6_wordHere_23 rfl (lv_at hl 4 rfl) ?_
        refine va_get (D := D) (ci := 6) (v := .int mln) (C := RX6) (T := TX6) (N := 23) hx hb hts w0 hown hK hP 0 rfl rfl 11 (by decide) w2 (fun _ h9 => h9) rfl dX6_wordHere_24 ?_
        refine lv_icmp_ge (tgt := 34) hx hb dX6_wordHere_27 (by decide) (fun c2 => ?_) (fun c2 => ?_)
        · have hf := if_p c2 hf
          refine lv_iconst (v := 0) hx hb dX6_wordHere_34 (by decide) ?_
          refine lv_istore (lv' := [(7, .int 0), (6, .int 0), (5, .int x5_8), (4, .int x4_8), (3, .int x3_8), (0, .ref ma), (1, .int i), (2, .int k)]) hx hb dX6_wordHere_35 hl (by decide) rfl (fun ls hl => ?_)
          obtain ⟨⟨q10, q11, q12, q13, q14⟩, hq18, hf⟩ := bd_inv hf
          refine L37 1000 0 0 x5_8 x4_8 x3_8 (q10, q11, q12, q13, q14) hq18 H locs ls hP hD hS (lv_sub hl [0, 1, 2, 3, 4, 5, 6, 7] rfl) (fun H locs ls hP hD hS hl => ?_)
          have hP : va_P D vwCl [(ma, .inr (6, [.int mst, .int mwy, .int mmk, .int mwt, .ref m1, .ref m2, .ref m3, .ref m4, .int mun, .ref m5, .ref m6, .int mln, .int mfi, .int mbe, .int mrs, .int mrw, .int mcl, .int mdo, .int mnu, .ref m7, .ref m8, .ref m9, .ref m10])), (m1, .inl (cI, 24, .inl mvl)), (m2, .inl (cI, 96, .inl mof)), (m3, .inl (cI, 168, .inl mw)), (m4, .inl (cF, 288, .inr (.inr (.inl mf)))), (m5, .inl (cZ, 2, .inl mik)), (m6, .inl (cI, 200, .inl mtx)), (m7, .inl (cI, 56, .inl mwd)), (m8, .inl (cI, 3, .inl msz)), (m9, .inl (cI, 3, .inl mso)), (m10, .inl (cI, 24, .inl mpl))] H := hP
          have hD : va_D A [(ma, .inr (6, [.int mst, .int mwy, .int mmk, .int mwt, .ref m1, .ref m2, .ref m3, .ref m4, .int mun, .ref m5, .ref m6, .int mln, .int mfi, .int mbe, .int mrs, .int mrw, .int mcl, .int mdo, .int mnu, .ref m7, .ref m8, .ref m9, .ref m10])), (m1, .inl (cI, 24, .inl mvl)), (m2, .inl (cI, 96, .inl mof)), (m3, .inl (cI, 168, .inl mw)), (m4, .inl (cF, 288, .inr (.inr (.inl mf)))), (m5, .inl (cZ, 2, .inl mik)), (m6, .inl (cI, 200, .inl mtx)), (m7, .inl (cI, 56, .inl mwd)), (m8, .inl (cI, 3, .inl msz)), (m9, .inl (cI, 3, .inl mso)), (m10, .inl (cI, 24, .inl mpl))] := hD
          have hl : lv_has ls 8 [(7, .int q10), (6, .int q11), (5, .int q12), (4, .int q13), (3, .int q14), (0, .ref ma), (1, .int i), (2, .int k)] := hl
          refine lv_iload hx hb dX6_wordHere_109 (lv_at hl 0 rfl) ?_
          refine lv_if_eq (tgt := 141) hx hb dX6_wordHere_111 (by decide) (fun c15 => ?_) (fun c15 => ?_)
          · have hf := if_p c15 hf
            refine lv_iload_n hx hb dX6_wordHere_141 rfl (lv_at hl 4 rfl) ?_
            refine lv_istore_n (lv' := [(3, .int q14), (7, .int q10), (6, .int q11), (5, .int q12), (4, .int q13), (0, .ref ma), (1, .int i), (2, .int k)]) hx hb dX6_wordHere_142 rfl hl (by decide) rfl (fun ls hl => ?_)
            refine lv_iload hx hb dX6_wordHere_143 (lv_at hl 4 rfl) ?_
            refine lv_iload hx hb dX6_wordHere_145 (lv_at hl 2 rfl) ?_
            refine lv_iconst (v := 1) hx hb dX6_wordHere_147 (by decide) ?_
            refine lv_iadd hx hb dX6_wordHere_148 ?_
            refine lv_iadd hx hb dX6_wordHere_149 ?_
            refine lv_istore (lv' := [(4, .int (q13 + (q11 + 1))), (3, .int q14), (7, .int q10), (6, .int q11), (5, .int q12), (0, .ref ma), (1, .int i), (2, .int k)]) hx hb dX6_wordHere_150 hl (by decide) rfl (fun ls hl => ?_)
            refine lv_iinc (v := q12 + 1) (lv' := [(5, .int (q12 + 1)), (4, .int (q13 + (q11 + 1))), (3, .int q14), (7, .int q10), (6, .int q11), (0, .ref ma), (1, .int i), (2, .int k)]) hx hb dX6_wordHere_152 hl (k := 4) rfl rfl (by decide) rfl (fun ls hl => ?_)
            refine lv_goto (tgt := 8) hx hb dX6_wordHere_155 (by decide) ?_
            exact ih (q12 + 1) (q13 + (q11 + 1)) q14 oo hf H locs ls hP hD hS (lv_sub hl [0, 1, 2, 5, 6, 7] rfl) kk
          · have hf := if_n c15 hf
            refine lv_aload_n hx hb dX6_wordHere_114 rfl (lv_at hl 5 rfl) ?_
            refine va_get (D := D) (ci := 6) (v := .int mbe) (C := RX6) (T := TX6) (N := 23) hx hb hts w0 hown hK hP 0 rfl rfl 13 (by decide) w4 (fun _ h9 => h9) rfl dX6_wordHere_115 ?_
            refine lv_aload_n hx hb dX6_wordHere_118 rfl (lv_at hl 5 rfl) ?_
            refine va_get (D := D) (ci := 6) (v := .int mfi) (C := RX6) (T := TX6) (N := 23) hx hb hts w0 hown hK hP 0 rfl rfl 12 (by decide) w1 (fun _ h9 => h9) rfl dX6_wordHere_119 ?_
            refine lv_isub hx hb dX6_wordHere_122 ?_
            refine lv_iload hx hb dX6_wordHere_123 (lv_at hl 1 rfl) ?_
            refine lv_icmp_ne (tgt := 141) hx hb dX6_wordHere_125 (by decide) (fun c16 => ?_) (fun c16 => ?_)
            · have hf := if_n c16 hf
              refine lv_iload_n hx hb dX6_wordHere_141 rfl (lv_at hl 4 rfl) ?_
              refine lv_istore_n (lv' := [(3, .int q14), (7, .int q10), (6, .int q11), (5, .int q12), (4, .int q13), (0, .ref ma), (1, .int i), (2, .int k)]) hx hb dX6_wordHere_142 rfl hl (by decide) rfl (fun ls hl => ?_)
              refine lv_iload hx hb dX6_wordHere_143 (lv_at hl 4 rfl) ?_
              refine lv_iload hx hb dX6_wordHere_145 (lv_at hl 2 rfl) ?_
              refine lv_iconst (v := 1) hx hb dX6_wordHere_147 (by decide) ?_
              refine lv_iadd hx hb dX6_wordHere_148 ?_
              refine lv_iadd hx hb dX6_wordHere_149 ?_
              refine lv_istore (lv' := [(4, .int (q13 + (q11 + 1))), (3, .int q14), (7, .int q10), (6, .int q11), (5, .int q12), (0, .ref ma), (1, .int i), (2, .int k)]) hx hb dX6_wordHere_150 hl (by decide) rfl (fun ls hl => ?_)
              refine lv_iinc (v := q12 + 1) (lv' := [(5, .int (q12 + 1)), (4, .int (q13 + (q11 + 1))), (3, .int q14), (7, .int q10), (6, .int q11), (0, .ref ma), (1, .int i), (2, .int k)]) hx hb dX6_wordHere_152 hl (k := 4) rfl rfl (by decide) rfl (fun ls hl => ?_)
              refine lv_goto (tgt := 8) hx hb dX6_wordHere_155 (by decide) ?_
              exact ih (q12 + 1) (q13 + (q11 + 1)) q14 oo hf H locs ls hP hD hS (lv_sub hl [0, 1, 2, 5, 6, 7] rfl) kk
            · have hf := if_p c16 hf
              refine lv_iload hx hb dX6_wordHere_128 (lv_at hl 2 rfl) ?_
              refine lv_iload_n hx hb dX6_wordHere_130 rfl (lv_at hl 6 rfl) ?_
              refine lv_icmp_lt (tgt := 141) hx hb dX6_wordHere_131 (by decide) (fun c17 => ?_) (fun c17 => ?_)
              · have hf := if_p c17 hf
                refine lv_iload_n hx hb dX6_wordHere_141 rfl (lv_at hl 4 rfl) ?_
                refine lv_istore_n (lv' := [(3, .int q14), (7, .int q10), (6, .int q11), (5, .int q12), (4, .int q13), (0, .ref ma), (1, .int i), (2, .int k)]) hx hb dX6_wordHere_142 rfl hl (by decide) rfl (fun ls hl => ?_)
                refine lv_iload hx hb dX6_wordHere_143 (lv_at hl 4 rfl) ?_
                refine lv_iload hx hb dX6_wordHere_145 (lv_at hl 2 rfl) ?_
                refine lv_iconst (v := 1) hx hb dX6_wordHere_147 (by decide) ?_
                refine lv_iadd hx hb dX6_wordHere_148 ?_
                refine lv_iadd hx hb dX6_wordHere_149 ?_
                refine lv_istore (lv' := [(4, .int (q13 + (q11 + 1))), (3, .int q14), (7, .int q10), (6, .int q11), (5, .int q12), (0, .ref ma), (1, .int i), (2, .int k)]) hx hb dX6_wordHere_150 hl (by decide) rfl (fun ls hl => ?_)
                refine lv_iinc (v := q12 + 1) (lv' := [(5, .int (q12 + 1)), (4, .int (q13 + (q11 + 1))), (3, .int q14), (7, .int q10), (6, .int q11), (0, .ref ma), (1, .int i), (2, .int k)]) hx hb dX6_wordHere_152 hl (k := 4) rfl rfl (by decide) rfl (fun ls hl => ?_)
                refine lv_goto (tgt := 8) hx hb dX6_wordHere_155 (by decide) ?_
                exact ih (q12 + 1) (q13 + (q11 + 1)) q14 oo hf H locs ls hP hD hS (lv_sub hl [0, 1, 2, 5, 6, 7] rfl) kk
              · have hf := if_n c17 hf
                refine lv_iload hx hb dX6_wordHere_134 (lv_at hl 2 rfl) ?_
                refine lv_iload_n hx hb dX6_wordHere_136 rfl (lv_at hl 6 rfl) ?_
                refine lv_isub hx hb dX6_wordHere_137 ?_
                refine lv_goto (tgt := 142) hx hb dX6_wordHere_138 (by decide) ?_
                refine lv_istore_n (lv' := [(3, .int (q12 - i)), (7, .int q10), (6, .int q11), (5, .int q12), (4, .int q13), (0, .ref ma), (1, .int i), (2, .int k)]) hx hb dX6_wordHere_142 rfl hl (by decide) rfl (fun ls hl => ?_)
                refine lv_iload hx hb dX6_wordHere_143 (lv_at hl 4 rfl) ?_
                refine lv_iload hx hb dX6_wordHere_145 (lv_at hl 2 rfl) ?_
                refine lv_iconst (v := 1) hx hb dX6_wordHere_147 (by decide) ?_
                refine lv_iadd hx hb dX6_wordHere_148 ?_
                refine lv_iadd hx hb dX6_wordHere_149 ?_
                refine lv_istore (lv' := [(4, .int (q13 + (q11 + 1))), (3, .int (q12 - i)), (7, .int q10), (6, .int q11), (5, .int q12), (0, .ref ma), (1, .int i), (2, .int k)]) hx hb dX6_wordHere_150 hl (by decide) rfl (fun ls hl => ?_)
                refine lv_iinc (v := q12 + 1) (lv' := [(5, .int (q12 + 1)), (4, .int (q13 + (q11 + 1))), (3, .int (q12 - i)), (7, .int q10), (6, .int q11), (0, .ref ma), (1, .int i), (2, .int k)]) hx hb dX6_wordHere_152 hl (k := 4) rfl rfl (by decide) rfl (fun ls hl => ?_)
                refine lv_goto (tgt := 8) hx hb dX6_wordHere_155 (by decide) ?_
                exact ih (q12 + 1) (q13 + (q11 + 1)) (q12 - i) oo hf H locs ls hP hD hS (lv_sub hl [0, 1, 2, 5, 6, 7] rfl) kk
        · have hf := if_n c2 hf
          refine lv_iconst (v := 1) hx hb dX6_wordHere_30 (by decide) ?_
          refine lv_goto (tgt := 35) hx hb dX6_wordHere_31 (by decide) ?_
          refine lv_istore (lv' := [(7, .int 1), (6, .int 0), (5, .int x5_8), (4, .int x4_8), (3, .int x3_8), (0, .ref ma), (1, .int i), (2, .int k)]) hx hb dX6_wordHere_35 hl (by decide) rfl (fun ls hl => ?_)
          obtain ⟨⟨q19, q20, q21, q22, q23⟩, hq27, hf⟩ := bd_inv hf
          refine L37 1000 0 1 x5_8 x4_8 x3_8 (q19, q20, q21, q22, q23) hq27 H locs ls hP hD hS (lv_sub hl [0, 1, 2, 3, 4, 5, 6, 7] rfl) (fun H locs ls hP hD hS hl => ?_)
          have hP : va_P D vwCl [(ma, .inr (6, [.int mst, .int mwy, .int mmk, .int mwt, .ref m1, .ref m2, .ref m3, .ref m4, .int mun, .ref m5, .ref m6, .int mln, .int mfi, .int mbe, .int mrs, .int mrw, .int mcl, .int mdo, .int mnu, .ref m7, .ref m8, .ref m9, .ref m10])), (m1, .inl (cI, 24, .inl mvl)), (m2, .inl (cI, 96, .inl mof)), (m3, .inl (cI, 168, .inl mw)), (m4, .inl (cF, 288, .inr (.inr (.inl mf)))), (m5, .inl (cZ, 2, .inl mik)), (m6, .inl (cI, 200, .inl mtx)), (m7, .inl (cI, 56, .inl mwd)), (m8, .inl (cI, 3, .inl msz)), (m9, .inl (cI, 3, .inl mso)), (m10, .inl (cI, 24, .inl mpl))] H := hP
          have hD : va_D A [(ma, .inr (6, [.int mst, .int mwy, .int mmk, .int mwt, .ref m1, .ref m2, .ref m3, .ref m4, .int mun, .ref m5, .ref m6, .int mln, .int mfi, .int mbe, .int mrs, .int mrw, .int mcl, .int mdo, .int mnu, .ref m7, .ref m8, .ref m9, .ref m10])), (m1, .inl (cI, 24, .inl mvl)), (m2, .inl (cI, 96, .inl mof)), (m3, .inl (cI, 168, .inl mw)), (m4, .inl (cF, 288, .inr (.inr (.inl mf)))), (m5, .inl (cZ, 2, .inl mik)), (m6, .inl (cI, 200, .inl mtx)), (m7, .inl (cI, 56, .inl mwd)), (m8, .inl (cI, 3, .inl msz)), (m9, .inl (cI, 3, .inl mso)), (m10, .inl (cI, 24, .inl mpl))] := hD
          have hl : lv_has ls 8 [(7, .int q19), (6, .int q20), (5, .int q21), (4, .int q22), (3, .int q23), (0, .ref ma), (1, .int i), (2, .int k)] := hl
          refine lv_iload hx hb dX6_wordHere_109 (lv_at hl 0 rfl) ?_
          refine lv_if_eq (tgt := 141) hx hb dX6_wordHere_111 (by decide) (fun c24 => ?_) (fun c24 => ?_)
          · have hf := if_p c24 hf
            refine lv_iload_n hx hb dX6_wordHere_141 rfl (lv_at hl 4 rfl) ?_
            refine lv_istore_n (lv' := [(3, .int q23), (7, .int q19), (6, .int q20), (5, .int q21), (4, .int q22), (0, .ref ma), (1, .int i), (2, .int k)]) hx hb dX6_wordHere_142 rfl hl (by decide) rfl (fun ls hl => ?_)
            refine lv_iload hx hb dX6_wordHere_143 (lv_at hl 4 rfl) ?_
            refine lv_iload hx hb dX6_wordHere_145 (lv_at hl 2 rfl) ?_
            refine lv_iconst (v := 1) hx hb dX6_wordHere_147 (by decide) ?_
            refine lv_iadd hx hb dX6_wordHere_148 ?_
            refine lv_iadd hx hb dX6_wordHere_149 ?_
            refine lv_istore (lv' := [(4, .int (q22 + (q20 + 1))), (3, .int q23), (7, .int q19), (6, .int q20), (5, .int q21), (0, .ref ma), (1, .int i), (2, .int k)]) hx hb dX6_wordHere_150 hl (by decide) rfl (fun ls hl => ?_)
            refine lv_iinc (v := q21 + 1) (lv' := [(5, .int (q21 + 1)), (4, .int (q22 + (q20 + 1))), (3, .int q23), (7, .int q19), (6, .int q20), (0, .ref ma), (1, .int i), (2, .int k)]) hx hb dX6_wordHere_152 hl (k := 4) rfl rfl (by decide) rfl (fun ls hl => ?_)
            refine lv_goto (tgt := 8) hx hb dX6_wordHere_155 (by decide) ?_
            exact ih (q21 + 1) (q22 + (q20 + 1)) q23 oo hf H locs ls hP hD hS (lv_sub hl [0, 1, 2, 5, 6, 7] rfl) kk
          · have hf := if_n c24 hf
            refine lv_aload_n hx hb dX6_wordHere_114 rfl (lv_at hl 5 rfl) ?_
            refine va_get (D := D) (ci := 6) (v := .int mbe) (C := RX6) (T := TX6) (N := 23) hx hb hts w0 hown hK hP 0 rfl rfl 13 (by decide) w4 (fun _ h9 => h9) rfl dX6_wordHere_115 ?_
            refine lv_aload_n hx hb dX6_wordHere_118 rfl (lv_at hl 5 rfl) ?_
            refine va_get (D := D) (ci := 6) (v := .int mfi) (C := RX6) (T := TX6) (N := 23) hx hb hts w0 hown hK hP 0 rfl rfl 12 (by decide) w1 (fun _ h9 => h9) rfl dX6_wordHere_119 ?_
            refine lv_isub hx hb dX6_wordHere_122 ?_
            refine lv_iload hx hb dX6_wordHere_123 (lv_at hl 1 rfl) ?_
            refine lv_icmp_ne (tgt := 141) hx hb dX6_wordHere_125 (by decide) (fun c25 => ?_) (fun c25 => ?_)
            · have hf := if_n c25 hf
              refine lv_iload_n hx hb dX6_wordHere_141 rfl (lv_at hl 4 rfl) ?_
              refine lv_istore_n (lv' := [(3, .int q23), (7, .int q19), (6, .int q20), (5, .int q21), (4, .int q22), (0, .ref ma), (1, .int i), (2, .int k)]) hx hb dX6_wordHere_142 rfl hl (by decide) rfl (fun ls hl => ?_)
              refine lv_iload hx hb dX6_wordHere_143 (lv_at hl 4 rfl) ?_
              refine lv_iload hx hb dX6_wordHere_145 (lv_at hl 2 rfl) ?_
              refine lv_iconst (v := 1) hx hb dX6_wordHere_147 (by decide) ?_
              refine lv_iadd hx hb dX6_wordHere_148 ?_
              refine lv_iadd hx hb dX6_wordHere_149 ?_
              refine lv_istore (lv' := [(4, .int (q22 + (q20 + 1))), (3, .int q23), (7, .int q19), (6, .int q20), (5, .int q21), (0, .ref ma), (1, .int i), (2, .int k)]) hx hb dX6_wordHere_150 hl (by decide) rfl (fun ls hl => ?_)
              refine lv_iinc (v := q21 + 1) (lv' := [(5, .int (q21 + 1)), (4, .int (q22 + (q20 + 1))), (3, .int q23), (7, .int q19), (6, .int q20), (0, .ref ma), (1, .int i), (2, .int k)]) hx hb dX6_wordHere_152 hl (k := 4) rfl rfl (by decide) rfl (fun ls hl => ?_)
              refine lv_goto (tgt := 8) hx hb dX6_wordHere_155 (by decide) ?_
              exact ih (q21 + 1) (q22 + (q20 + 1)) q23 oo hf H locs ls hP hD hS (lv_sub hl [0, 1, 2, 5, 6, 7] rfl) kk
            · have hf := if_p c25 hf
              refine lv_iload hx hb dX6_wordHere_128 (lv_at hl 2 rfl) ?_
              refine lv_iload_n hx hb dX6_wordHere_130 rfl (lv_at hl 6 rfl) ?_
              refine lv_icmp_lt (tgt := 141) hx hb dX6_wordHere_131 (by decide) (fun c26 => ?_) (fun c26 => ?_)
              · have hf := if_p c26 hf
                refine lv_iload_n hx hb dX6_wordHere_141 rfl (lv_at hl 4 rfl) ?_
                refine lv_istore_n (lv' := [(3, .int q23), (7, .int q19), (6, .int q20), (5, .int q21), (4, .int q22), (0, .ref ma), (1, .int i), (2, .int k)]) hx hb dX6_wordHere_142 rfl hl (by decide) rfl (fun ls hl => ?_)
                refine lv_iload hx hb dX6_wordHere_143 (lv_at hl 4 rfl) ?_
                refine lv_iload hx hb dX6_wordHere_145 (lv_at hl 2 rfl) ?_
                refine lv_iconst (v := 1) hx hb dX6_wordHere_147 (by decide) ?_
                refine lv_iadd hx hb dX6_wordHere_148 ?_
                refine lv_iadd hx hb dX6_wordHere_149 ?_
                refine lv_istore (lv' := [(4, .int (q22 + (q20 + 1))), (3, .int q23), (7, .int q19), (6, .int q20), (5, .int q21), (0, .ref ma), (1, .int i), (2, .int k)]) hx hb dX6_wordHere_150 hl (by decide) rfl (fun ls hl => ?_)
                refine lv_iinc (v := q21 + 1) (lv' := [(5, .int (q21 + 1)), (4, .int (q22 + (q20 + 1))), (3, .int q23), (7, .int q19), (6, .int q20), (0, .ref ma), (1, .int i), (2, .int k)]) hx hb dX6_wordHere_152 hl (k := 4) rfl rfl (by decide) rfl (fun ls hl => ?_)
                refine lv_goto (tgt := 8) hx hb dX6_wordHere_155 (by decide) ?_
                exact ih (q21 + 1) (q22 + (q20 + 1)) q23 oo hf H locs ls hP hD hS (lv_sub hl [0, 1, 2, 5, 6, 7] rfl) kk
              · have hf := if_n c26 hf
                refine lv_iload hx hb dX6_wordHere_134 (lv_at hl 2 rfl) ?_
                refine lv_iload_n hx hb dX6_wordHere_136 rfl (lv_at hl 6 rfl) ?_
                refine lv_isub hx hb dX6_wordHere_137 ?_
                refine lv_goto (tgt := 142) hx hb dX6_wordHere_138 (by decide) ?_
                refine lv_istore_n (lv' := [(3, .int (q21 - i)), (7, .int q19), (6, .int q20), (5, .int q21), (4, .int q22), (0, .ref ma), (1, .int i), (2, .int k)]) hx hb dX6_wordHere_142 rfl hl (by decide) rfl (fun ls hl => ?_)
                refine lv_iload hx hb dX6_wordHere_143 (lv_at hl 4 rfl) ?_
                refine lv_iload hx hb dX6_wordHere_145 (lv_at hl 2 rfl) ?_
                refine lv_iconst (v := 1) hx hb dX6_wordHere_147 (by decide) ?_
                refine lv_iadd hx hb dX6_wordHere_148 ?_
                refine lv_iadd hx hb dX6_wordHere_149 ?_
                refine lv_istore (lv' := [(4, .int (q22 + (q20 + 1))), (3, .int (q21 - i)), (7, .int q19), (6, .int q20), (5, .int q21), (0, .ref ma), (1, .int i), (2, .int k)]) hx hb dX6_wordHere_150 hl (by decide) rfl (fun ls hl => ?_)
                refine lv_iinc (v := q21 + 1) (lv' := [(5, .int (q21 + 1)), (4, .int (q22 + (q20 + 1))), (3, .int (q21 - i)), (7, .int q19), (6, .int q20), (0, .ref ma), (1, .int i), (2, .int k)]) hx hb dX6_wordHere_152 hl (k := 4) rfl rfl (by decide) rfl (fun ls hl => ?_)
                refine lv_goto (tgt := 8) hx hb dX6_wordHere_155 (by decide) ?_
                exact ih (q21 + 1) (q22 + (q20 + 1)) (q21 - i) oo hf H locs ls hP hD hS (lv_sub hl [0, 1, 2, 5, 6, 7] rfl) kk
  unfold f_X6_wordHere at hf
  refine lv_iconst (v := (-1)) hx hb dX6_wordHere_0 (by decide) ?_
  refine lv_istore_n (lv' := [(3, .int (-1)), (0, .ref ma), (1, .int i), (2, .int k)]) hx hb dX6_wordHere_1 rfl hl (by decide) rfl (fun ls hl => ?_)
  refine lv_iconst (v := 0) hx hb dX6_wordHere_2 (by decide) ?_
  refine lv_istore (lv' := [(4, .int 0), (3, .int (-1)), (0, .ref ma), (1, .int i), (2, .int k)]) hx hb dX6_wordHere_3 hl (by decide) rfl (fun ls hl => ?_)
  refine lv_iconst (v := 0) hx hb dX6_wordHere_5 (by decide) ?_
  refine lv_istore (lv' := [(5, .int 0), (4, .int 0), (3, .int (-1)), (0, .ref ma), (1, .int i), (2, .int k)]) hx hb dX6_wordHere_6 hl (by decide) rfl (fun ls hl => ?_)
  obtain ⟨⟨q28, q29, q30⟩, hq31, hf⟩ := bd_inv hf
  refine L8 1000 0 0 (-1) (q28, q29, q30) hq31 H locs ls hP hD hS (lv_sub hl [0, 1, 2, 3, 4, 5] rfl) (fun H locs ls hP hD hS hl => ?_)
  have hP : va_P D vwCl [(ma, .inr (6, [.int mst, .int mwy, .int mmk, .int mwt, .ref m1, .ref m2, .ref m3, .ref m4, .int mun, .ref m5, .ref m6, .int mln, .int mfi, .int mbe, .int mrs, .int mrw, .int mcl, .int mdo, .int mnu, .ref m7, .ref m8, .ref m9, .ref m10])), (m1, .inl (cI, 24, .inl mvl)), (m2, .inl (cI, 96, .inl mof)), (m3, .inl (cI, 168, .inl mw)), (m4, .inl (cF, 288, .inr (.inr (.inl mf)))), (m5, .inl (cZ, 2, .inl mik)), (m6, .inl (cI, 200, .inl mtx)), (m7, .inl (cI, 56, .inl mwd)), (m8, .inl (cI, 3, .inl msz)), (m9, .inl (cI, 3, .inl mso)), (m10, .inl (cI, 24, .inl mpl))] H := hP
  have hD : va_D A [(ma, .inr (6, [.int mst, .int mwy, .int mmk, .int mwt, .ref m1, .ref m2, .ref m3, .ref m4, .int mun, .ref m5, .ref m6, .int mln, .int mfi, .int mbe, .int mrs, .int mrw, .int mcl, .int mdo, .int mnu, .ref m7, .ref m8, .ref m9, .ref m10])), (m1, .inl (cI, 24, .inl mvl)), (m2, .inl (cI, 96, .inl mof)), (m3, .inl (cI, 168, .inl mw)), (m4, .inl (cF, 288, .inr (.inr (.inl mf)))), (m5, .inl (cZ, 2, .inl mik)), (m6, .inl (cI, 200, .inl mtx)), (m7, .inl (cI, 56, .inl mwd)), (m8, .inl (cI, 3, .inl msz)), (m9, .inl (cI, 3, .inl mso)), (m10, .inl (cI, 24, .inl mpl))] := hD
  have hl : lv_has ls 8 [(5, .int q28), (4, .int q29), (3, .int q30), (0, .ref ma), (1, .int i), (2, .int k)] := hl
  refine lv_iload_n hx hb dX6_wordHere_158 rfl (lv_at hl 2 rfl) ?_
  have h1 := Option.some.inj hf
  subst h1
  rw [hQ]
  exact W.iret (v := q30) hx hb hr (fun t ht hW => qEnd hP hS ht) hS.2.2 dX6_wordHere_159
set_option maxRecDepth 100000 in
set_option maxHeartbeats 4000000 in
theorem c_X6_takesNumber (l : Launch) (D : va_G) (B : Nat) (adK adV : Nat → Nat) (cC cF cI cZ cM cS : ClassId) (ma : Nat) (mst : Int32) (mwy : Int32) (mmk : Int32) (mwt : Int32) (m1 : Nat) (m2 : Nat) (m3 : Nat) (m4 : Nat) (mun : Int32) (m5 : Nat) (m6 : Nat) (mln : Int32) (mfi : Int32) (mbe : Int32) (mrs : Int32) (mrw : Int32) (mcl : Int32) (mdo : Int32) (mnu : Int32) (m7 : Nat) (m8 : Nat) (m9 : Nat) (m10 : Nat) (mvl : Nat → Int32) (mof : Nat → Int32) (mw : Nat → Int32) (mf : Nat → UInt32) (mik : Nat → Int32) (mtx : Nat → Int32) (mwd : Nat → Int32) (msz : Nat → Int32) (mso : Nat → Int32) (mpl : Nat → Int32) (lo : Int32) (hi : Int32) (zz : Int32 × Int32 × Int32 × Int32) (hf : f_X6_takesNumber mln mfi mbe mnu mtx lo hi = some zz) : Ct l yX6_takesNumber wsX6_takesNumber { frames := 3, cells := 0, slots := 0, locals := 66 } D B adK adV (tysX cC cF cI cZ cM cS) [.ref ma, .int lo, .int hi] [(ma, .inr (6, [.int mst, .int mwy, .int mmk, .int mwt, .ref m1, .ref m2, .ref m3, .ref m4, .int mun, .ref m5, .ref m6, .int mln, .int mfi, .int mbe, .int mrs, .int mrw, .int mcl, .int mdo, .int mnu, .ref m7, .ref m8, .ref m9, .ref m10])), (m1, .inl (cI, 24, .inl mvl)), (m2, .inl (cI, 96, .inl mof)), (m3, .inl (cI, 168, .inl mw)), (m4, .inl (cF, 288, .inr (.inr (.inl mf)))), (m5, .inl (cZ, 2, .inl mik)), (m6, .inl (cI, 200, .inl mtx)), (m7, .inl (cI, 56, .inl mwd)), (m8, .inl (cI, 3, .inl msz)), (m9, .inl (cI, 3, .inl mso)), (m10, .inl (cI, 24, .inl mpl))] [(ma, .inr (6, [.int mst, .int mwy, .int mmk, .int mwt, .ref m1, .ref m2, .ref m3, .ref m4, .int mun, .ref m5, .ref m6, .int mln, .int zz.2.1, .int zz.2.2.1, .int mrs, .int mrw, .int mcl, .int mdo, .int zz.2.2.2, .ref m7, .ref m8, .ref m9, .ref m10])), (m1, .inl (cI, 24, .inl mvl)), (m2, .inl (cI, 96, .inl mof)), (m3, .inl (cI, 168, .inl mw)), (m4, .inl (cF, 288, .inr (.inr (.inl mf)))), (m5, .inl (cZ, 2, .inl mik)), (m6, .inl (cI, 200, .inl mtx)), (m7, .inl (cI, 56, .inl mwd)), (m8, .inl (cI, 3, .inl msz)), (m9, .inl (cI, 3, .inl mso)), (m10, .inl (cI, 24, .inl mpl))] (some (.int zz.1)) := by
  refine Ct.ofW (cc := cX6_takesNumber) (maxL := 4) (ret := (some .boolean)) (by decide) rfl (Nat.le_of_ble_eq_true rfl) ?_
  intro p e s m args below meth c hx hb hr hml hts hown hlocks hnm hK hE A Q hQ hB H locs ls hP hD hS hl
  have hl : lv_has ls 4 [(0, .ref ma), (1, .int lo), (2, .int hi)] := hl
  have w0 : ∀ w ∈ u_ws RX6 TX6 23, w ∈ wsX6_takesNumber := by decide +kernel
  have w1 := hts (.fieldLink RX6 72 "MotionStatesModel" "first" "I") (by decide +kernel)
  have w2 := hts (.fieldLink RX6 58 "MotionStatesModel" "length" "I") (by decide +kernel)
  have w3 := hts (.fieldLink RX6 31 "MotionStatesModel" "text" "[I") (by decide +kernel)
  have w4 := hts (.fieldLink RX6 69 "MotionStatesModel" "behind" "I") (by decide +kernel)
  have w5 := hts (.fieldLink RX6 82 "MotionStatesModel" "number" "I") (by decide +kernel)
  unfold f_X6_takesNumber at hf
  refine lv_aload_n hx hb dX6_takesNumber_0 rfl (lv_at hl 0 rfl) ?_
  refine va_get (D := D) (ci := 6) (v := .int mfi) (C := RX6) (T := TX6) (N := 23) hx hb hts w0 hown hK hP 0 rfl rfl 12 (by decide) w1 (fun _ h9 => h9) rfl dX6_takesNumber_1 ?_
  refine lv_aload_n hx hb dX6_takesNumber_4 rfl (lv_at hl 0 rfl) ?_
  refine va_get (D := D) (ci := 6) (v := .int mln) (C := RX6) (T := TX6) (N := 23) hx hb hts w0 hown hK hP 0 rfl rfl 11 (by decide) w2 (fun _ h9 => h9) rfl dX6_takesNumber_5 ?_
  refine lv_icmp_eq (tgt := 39) hx hb dX6_takesNumber_8 (by decide) (fun c1 => ?_) (fun c1 => ?_)
  · have hf := if_p c1 hf
    refine lv_iconst (v := 0) hx hb dX6_takesNumber_39 (by decide) ?_
    have h1 := Option.some.inj hf
    subst h1
    rw [hQ]
    exact W.zret (v := 0) (ty := .boolean) hx hb hr rfl (fun t ht hW => qEnd hP hS ht) hS.2.2 dX6_takesNumber_40
  · have hf := if_n c1 hf
    refine lv_aload_n hx hb dX6_takesNumber_11 rfl (lv_at hl 0 rfl) ?_
    refine va_get (D := D) (ci := 6) (v := .ref m6) (C := RX6) (T := TX6) (N := 23) hx hb hts w0 hown hK hP 0 rfl rfl 10 (by decide) w3 (fun _ h9 => h9) rfl dX6_takesNumber_12 ?_
    refine lv_aload_n hx hb dX6_takesNumber_15 rfl (lv_at hl 0 rfl) ?_
    refine va_get (D := D) (ci := 6) (v := .int mfi) (C := RX6) (T := TX6) (N := 23) hx hb hts w0 hown hK hP 0 rfl rfl 12 (by decide) w1 (fun _ h9 => h9) rfl dX6_takesNumber_16 ?_
    obtain ⟨g2, hf⟩ := gd_inv hf
    refine va_iald hx hb hK hP 6 2 rfl rfl g2 dX6_takesNumber_19 ?_
    obtain ⟨r3, hc4, hf⟩ := bd_inv hf
    refine xcS (As := [.int (mtx mfi.toNatClampNeg)]) (rest := []) (ws' := [(ma, .inr (6, [.int mst, .int mwy, .int mmk, .int mwt, .ref m1, .ref m2, .ref m3, .ref m4, .int mun, .ref m5, .ref m6, .int mln, .int mfi, .int mbe, .int mrs, .int mrw, .int mcl, .int mdo, .int mnu, .ref m7, .ref m8, .ref m9, .ref m10])), (m1, .inl (cI, 24, .inl mvl)), (m2, .inl (cI, 96, .inl mof)), (m3, .inl (cI, 168, .inl mw)), (m4, .inl (cF, 288, .inr (.inr (.inl mf)))), (m5, .inl (cZ, 2, .inl mik)), (m6, .inl (cI, 200, .inl mtx)), (m7, .inl (cI, 56, .inl mwd)), (m8, .inl (cI, 3, .inl msz)), (m9, .inl (cI, 3, .inl mso)), (m10, .inl (cI, 24, .inl mpl))]) ⟨hx, hb, hml, hown, hts⟩ (c_X6_isDigit l D B adK adV cC cF cI cZ cM cS (mtx mfi.toNatClampNeg)  r3 hc4) (va_cwS 1 hts gX6_takesNumber_X6_isDigit rfl rfl rfl (by decide +kernel) ⟨Nat.le_of_ble_eq_true rfl, Nat.le_of_ble_eq_true rfl⟩) hK hP hD hS hB hE [] rfl rfl rfl rfl rfl hl.1 rfl (Nat.le_of_ble_eq_true rfl) dX6_takesNumber_20 ⟨Nat.le_of_ble_eq_true rfl, Nat.le_of_ble_eq_true rfl⟩ (fun H locs hP hD hS => ?_)
    refine W.eq (g2 := F0 m 23 ls [.int r3]) rfl ?_
    refine lv_if_eq (tgt := 39) hx hb dX6_takesNumber_23 (by decide) (fun c5 => ?_) (fun c5 => ?_)
    · have hf := if_p c5 hf
      refine lv_iconst (v := 0) hx hb dX6_takesNumber_39 (by decide) ?_
      have h1 := Option.some.inj hf
      subst h1
      rw [hQ]
      exact W.zret (v := 0) (ty := .boolean) hx hb hr rfl (fun t ht hW => qEnd hP hS ht) hS.2.2 dX6_takesNumber_40
    · have hf := if_n c5 hf
      refine lv_aload_n hx hb dX6_takesNumber_26 rfl (lv_at hl 0 rfl) ?_
      refine va_get (D := D) (ci := 6) (v := .int mbe) (C := RX6) (T := TX6) (N := 23) hx hb hts w0 hown hK hP 0 rfl rfl 13 (by decide) w4 (fun _ h9 => h9) rfl dX6_takesNumber_27 ?_
      refine lv_aload_n hx hb dX6_takesNumber_30 rfl (lv_at hl 0 rfl) ?_
      refine va_get (D := D) (ci := 6) (v := .int mfi) (C := RX6) (T := TX6) (N := 23) hx hb hts w0 hown hK hP 0 rfl rfl 12 (by decide) w1 (fun _ h9 => h9) rfl dX6_takesNumber_31 ?_
      refine lv_isub hx hb dX6_takesNumber_34 ?_
      refine lv_iconst (v := 2) hx hb dX6_takesNumber_35 (by decide) ?_
      refine lv_icmp_le (tgt := 41) hx hb dX6_takesNumber_36 (by decide) (fun c6 => ?_) (fun c6 => ?_)
      · have hf := if_p c6 hf
        refine lv_aload_n hx hb dX6_takesNumber_41 rfl (lv_at hl 0 rfl) ?_
        refine va_get (D := D) (ci := 6) (v := .ref m6) (C := RX6) (T := TX6) (N := 23) hx hb hts w0 hown hK hP 0 rfl rfl 10 (by decide) w3 (fun _ h9 => h9) rfl dX6_takesNumber_42 ?_
        refine lv_aload_n hx hb dX6_takesNumber_45 rfl (lv_at hl 0 rfl) ?_
        refine va_get (D := D) (ci := 6) (v := .int mfi) (C := RX6) (T := TX6) (N := 23) hx hb hts w0 hown hK hP 0 rfl rfl 12 (by decide) w1 (fun _ h9 => h9) rfl dX6_takesNumber_46 ?_
        obtain ⟨g7, hf⟩ := gd_inv hf
        refine va_iald hx hb hK hP 6 2 rfl rfl g7 dX6_takesNumber_49 ?_
        refine lv_bipush (v := 48) hx hb dX6_takesNumber_50 (by decide) ?_
        refine lv_isub hx hb dX6_takesNumber_52 ?_
        refine lv_istore_n (lv' := [(3, .int ((mtx mfi.toNatClampNeg) - 48)), (0, .ref ma), (1, .int lo), (2, .int hi)]) hx hb dX6_takesNumber_53 rfl hl (by decide) rfl (fun ls hl => ?_)
        refine lv_aload_n hx hb dX6_takesNumber_54 rfl (lv_at hl 1 rfl) ?_
        refine va_get (D := D) (ci := 6) (v := .int mbe) (C := RX6) (T := TX6) (N := 23) hx hb hts w0 hown hK hP 0 rfl rfl 13 (by decide) w4 (fun _ h9 => h9) rfl dX6_takesNumber_55 ?_
        refine lv_aload_n hx hb dX6_takesNumber_58 rfl (lv_at hl 1 rfl) ?_
        refine va_get (D := D) (ci := 6) (v := .int mfi) (C := RX6) (T := TX6) (N := 23) hx hb hts w0 hown hK hP 0 rfl rfl 12 (by decide) w1 (fun _ h9 => h9) rfl dX6_takesNumber_59 ?_
        refine lv_isub hx hb dX6_takesNumber_62 ?_
        refine lv_iconst (v := 2) hx hb dX6_takesNumber_63 (by decide) ?_
        refine lv_icmp_ne (tgt := 89) hx hb dX6_takesNumber_64 (by decide) (fun c8 => ?_) (fun c8 => ?_)
        · have hf := if_n c8 hf
          refine lv_iload_n hx hb dX6_takesNumber_89 rfl (lv_at hl 0 rfl) ?_
          refine lv_istore_n (lv' := [(3, .int ((mtx mfi.toNatClampNeg) - 48)), (0, .ref ma), (1, .int lo), (2, .int hi)]) hx hb dX6_takesNumber_90 rfl hl (by decide) rfl (fun ls hl => ?_)
          refine lv_iload_n hx hb dX6_takesNumber_91 rfl (lv_at hl 0 rfl) ?_
          refine lv_i2l hx hb dX6_takesNumber_92 rfl ?_
          refine lv_iload_n hx hb dX6_takesNumber_93 rfl (lv_at hl 2 rfl) ?_
          refine lv_i2l hx hb dX6_takesNumber_94 rfl ?_
          refine lv_iload_n hx hb dX6_takesNumber_95 rfl (lv_at hl 3 rfl) ?_
          refine lv_i2l hx hb dX6_takesNumber_96 rfl ?_
          obtain ⟨r9, hc10, hf⟩ := bd_inv hf
          refine xcS (As := [.long (((mtx mfi.toNatClampNeg) - 48).toInt64), .long (lo.toInt64), .long (hi.toInt64)]) (rest := []) (ws' := [(ma, .inr (6, [.int mst, .int mwy, .int mmk, .int mwt, .ref m1, .ref m2, .ref m3, .ref m4, .int mun, .ref m5, .ref m6, .int mln, .int mfi, .int mbe, .int mrs, .int mrw, .int mcl, .int mdo, .int mnu, .ref m7, .ref m8, .ref m9, .ref m10])), (m1, .inl (cI, 24, .inl mvl)), (m2, .inl (cI, 96, .inl mof)), (m3, .inl (cI, 168, .inl mw)), (m4, .inl (cF, 288, .inr (.inr (.inl mf)))), (m5, .inl (cZ, 2, .inl mik)), (m6, .inl (cI, 200, .inl mtx)), (m7, .inl (cI, 56, .inl mwd)), (m8, .inl (cI, 3, .inl msz)), (m9, .inl (cI, 3, .inl mso)), (m10, .inl (cI, 24, .inl mpl))]) ⟨hx, hb, hml, hown, hts⟩ (c_X6_in l D B adK adV cC cF cI cZ cM cS (((mtx mfi.toNatClampNeg) - 48).toInt64) (lo.toInt64) (hi.toInt64)  r9 hc10) (va_cwS 3 hts gX6_takesNumber_X6_in rfl rfl rfl (by decide +kernel) ⟨Nat.le_of_ble_eq_true rfl, Nat.le_of_ble_eq_true rfl⟩) hK hP hD hS hB hE [] rfl rfl rfl rfl rfl hl.1 rfl (Nat.le_of_ble_eq_true rfl) dX6_takesNumber_97 ⟨Nat.le_of_ble_eq_true rfl, Nat.le_of_ble_eq_true rfl⟩ (fun H locs hP hD hS => ?_)
          refine W.eq (g2 := F0 m 100 ls [.int r9]) rfl ?_
          refine lv_if_ne (tgt := 105) hx hb dX6_takesNumber_100 (by decide) (fun c11 => ?_) (fun c11 => ?_)
          · have hf := if_n c11 hf
            refine lv_aload_n hx hb dX6_takesNumber_105 rfl (lv_at hl 1 rfl) ?_
            refine lv_iload_n hx hb dX6_takesNumber_106 rfl (lv_at hl 0 rfl) ?_
            refine va_put (D := D) (ci := 6) (v := .int ((mtx mfi.toNatClampNeg) - 48)) (ty := .int) (C := RX6) (T := TX6) (N := 23) hx hb hts w0 tyX6 tyX6_ok nmX6 hown hK hP hD hS 0 rfl rfl 18 (by decide) w5 (fun _ h9 => h9) rfl (by decide +kernel) rfl rfl (Nat.le_of_ble_eq_true rfl) dX6_takesNumber_107 (fun H locs hP hD hS => ?_)
            have hP : va_P D vwCl [(ma, .inr (6, [.int mst, .int mwy, .int mmk, .int mwt, .ref m1, .ref m2, .ref m3, .ref m4, .int mun, .ref m5, .ref m6, .int mln, .int mfi, .int mbe, .int mrs, .int mrw, .int mcl, .int mdo, .int ((mtx mfi.toNatClampNeg) - 48), .ref m7, .ref m8, .ref m9, .ref m10])), (m1, .inl (cI, 24, .inl mvl)), (m2, .inl (cI, 96, .inl mof)), (m3, .inl (cI, 168, .inl mw)), (m4, .inl (cF, 288, .inr (.inr (.inl mf)))), (m5, .inl (cZ, 2, .inl mik)), (m6, .inl (cI, 200, .inl mtx)), (m7, .inl (cI, 56, .inl mwd)), (m8, .inl (cI, 3, .inl msz)), (m9, .inl (cI, 3, .inl mso)), (m10, .inl (cI, 24, .inl mpl))] H := hP
            have hD : va_D A [(ma, .inr (6, [.int mst, .int mwy, .int mmk, .int mwt, .ref m1, .ref m2, .ref m3, .ref m4, .int mun, .ref m5, .ref m6, .int mln, .int mfi, .int mbe, .int mrs, .int mrw, .int mcl, .int mdo, .int ((mtx mfi.toNatClampNeg) - 48), .ref m7, .ref m8, .ref m9, .ref m10])), (m1, .inl (cI, 24, .inl mvl)), (m2, .inl (cI, 96, .inl mof)), (m3, .inl (cI, 168, .inl mw)), (m4, .inl (cF, 288, .inr (.inr (.inl mf)))), (m5, .inl (cZ, 2, .inl mik)), (m6, .inl (cI, 200, .inl mtx)), (m7, .inl (cI, 56, .inl mwd)), (m8, .inl (cI, 3, .inl msz)), (m9, .inl (cI, 3, .inl mso)), (m10, .inl (cI, 24, .inl mpl))] := hD
            refine lv_aload_n hx hb dX6_takesNumber_110 rfl (lv_at hl 1 rfl) ?_
            obtain ⟨⟨o12, o13⟩, hc14, hf⟩ := bd_inv hf
            refine xcV (As := []) (rest := []) (ws' := [(ma, .inr (6, [.int mst, .int mwy, .int mmk, .int mwt, .ref m1, .ref m2, .ref m3, .ref m4, .int mun, .ref m5, .ref m6, .int mln, .int o12, .int o13, .int mrs, .int mrw, .int mcl, .int mdo, .int ((mtx mfi.toNatClampNeg) - 48), .ref m7, .ref m8, .ref m9, .ref m10])), (m1, .inl (cI, 24, .inl mvl)), (m2, .inl (cI, 96, .inl mof)), (m3, .inl (cI, 168, .inl mw)), (m4, .inl (cF, 288, .inr (.inr (.inl mf)))), (m5, .inl (cZ, 2, .inl mik)), (m6, .inl (cI, 200, .inl mtx)), (m7, .inl (cI, 56, .inl mwd)), (m8, .inl (cI, 3, .inl msz)), (m9, .inl (cI, 3, .inl mso)), (m10, .inl (cI, 24, .inl mpl))]) ⟨hx, hb, hml, hown, hts⟩ (c_X6_nextToken l D B adK adV cC cF cI cZ cM cS ma mst mwy mmk mwt m1 m2 m3 m4 mun m5 m6 mln mfi mbe mrs mrw mcl mdo ((mtx mfi.toNatClampNeg) - 48) m7 m8 m9 m10 mvl mof mw mf mik mtx mwd msz mso mpl  (o12, o13) hc14) (cwV 0 hts gX6_takesNumber_X6_nextToken rfl rfl rfl (by decide +kernel) ⟨Nat.le_of_ble_eq_true rfl, Nat.le_of_ble_eq_true rfl⟩) (va_recv hK hP (ci := 6) (q0 := 0) rfl rfl) hK hP hD hS hB hE [0, 1, 2, 3, 4, 5, 6, 7, 8, 9, 10] rfl rfl rfl rfl rfl hl.1 rfl (Nat.le_of_ble_eq_true rfl) dX6_takesNumber_111 ⟨Nat.le_of_ble_eq_true rfl, Nat.le_of_ble_eq_true rfl⟩ (fun H locs hP hD hS => ?_)
            refine W.eq (g2 := F0 m 114 ls []) rfl ?_
            refine lv_iconst (v := 1) hx hb dX6_takesNumber_114 (by decide) ?_
            have h1 := Option.some.inj hf
            subst h1
            rw [hQ]
            exact W.zret (v := 1) (ty := .boolean) hx hb hr rfl (fun t ht hW => qEnd hP hS ht) hS.2.2 dX6_takesNumber_115
          · have hf := if_p c11 hf
            refine lv_iconst (v := 0) hx hb dX6_takesNumber_103 (by decide) ?_
            have h1 := Option.some.inj hf
            subst h1
            rw [hQ]
            exact W.zret (v := 0) (ty := .boolean) hx hb hr rfl (fun t ht hW => qEnd hP hS ht) hS.2.2 dX6_takesNumber_104
        · have hf := if_p c8 hf
          refine lv_bipush (v := 10) hx hb dX6_takesNumber_67 (by decide) ?_
          refine lv_iload_n hx hb dX6_takesNumber_69 rfl (lv_at hl 0 rfl) ?_
          refine lv_imul hx hb dX6_takesNumber_70 ?_
          refine lv_aload_n hx hb dX6_takesNumber_71 rfl (lv_at hl 1 rfl) ?_
          refine va_get (D := D) (ci := 6) (v := .ref m6) (C := RX6) (T := TX6) (N := 23) hx hb hts w0 hown hK hP 0 rfl rfl 10 (by decide) w3 (fun _ h9 => h9) rfl dX6_takesNumber_72 ?_
          refine lv_aload_n hx hb dX6_takesNumber_75 rfl (lv_at hl 1 rfl) ?_
          refine va_get (D := D) (ci := 6) (v := .int mfi) (C := RX6) (T := TX6) (N := 23) hx hb hts w0 hown hK hP 0 rfl rfl 12 (by decide) w1 (fun _ h9 => h9) rfl dX6_takesNumber_76 ?_
          refine lv_iconst (v := 1) hx hb dX6_takesNumber_79 (by decide) ?_
          refine lv_iadd hx hb dX6_takesNumber_80 ?_
          obtain ⟨g15, hf⟩ := gd_inv hf
          refine va_iald hx hb hK hP 6 2 rfl rfl g15 dX6_takesNumber_81 ?_
          refine lv_iadd hx hb dX6_takesNumber_82 ?_
          refine lv_bipush (v := 48) hx hb dX6_takesNumber_83 (by decide) ?_
          refine lv_isub hx hb dX6_takesNumber_85 ?_
          refine lv_goto (tgt := 90) hx hb dX6_takesNumber_86 (by decide) ?_
          refine lv_istore_n (lv' := [(3, .int ((((10 : Int32) * ((mtx mfi.toNatClampNeg) - 48)) + (mtx ((mfi + 1).toNatClampNeg))) - 48)), (0, .ref ma), (1, .int lo), (2, .int hi)]) hx hb dX6_takesNumber_90 rfl hl (by decide) rfl (fun ls hl => ?_)
          refine lv_iload_n hx hb dX6_takesNumber_91 rfl (lv_at hl 0 rfl) ?_
          refine lv_i2l hx hb dX6_takesNumber_92 rfl ?_
          refine lv_iload_n hx hb dX6_takesNumber_93 rfl (lv_at hl 2 rfl) ?_
          refine lv_i2l hx hb dX6_takesNumber_94 rfl ?_
          refine lv_iload_n hx hb dX6_takesNumber_95 rfl (lv_at hl 3 rfl) ?_
          refine lv_i2l hx hb dX6_takesNumber_96 rfl ?_
          obtain ⟨r16, hc17, hf⟩ := bd_inv hf
          refine xcS (As := [.long (((((10 : Int32) * ((mtx mfi.toNatClampNeg) - 48)) + (mtx ((mfi + 1).toNatClampNeg))) - 48).toInt64), .long (lo.toInt64), .long (hi.toInt64)]) (rest := []) (ws' := [(ma, .inr (6, [.int mst, .int mwy, .int mmk, .int mwt, .ref m1, .ref m2, .ref m3, .ref m4, .int mun, .ref m5, .ref m6, .int mln, .int mfi, .int mbe, .int mrs, .int mrw, .int mcl, .int mdo, .int mnu, .ref m7, .ref m8, .ref m9, .ref m10])), (m1, .inl (cI, 24, .inl mvl)), (m2, .inl (cI, 96, .inl mof)), (m3, .inl (cI, 168, .inl mw)), (m4, .inl (cF, 288, .inr (.inr (.inl mf)))), (m5, .inl (cZ, 2, .inl mik)), (m6, .inl (cI, 200, .inl mtx)), (m7, .inl (cI, 56, .inl mwd)), (m8, .inl (cI, 3, .inl msz)), (m9, .inl (cI, 3, .inl mso)), (m10, .inl (cI, 24, .inl mpl))]) ⟨hx, hb, hml, hown, hts⟩ (c_X6_in l D B adK adV cC cF cI cZ cM cS (((((10 : Int32) * ((mtx mfi.toNatClampNeg) - 48)) + (mtx ((mfi + 1).toNatClampNeg))) - 48).toInt64) (lo.toInt64) (hi.toInt64)  r16 hc17) (va_cwS 3 hts gX6_takesNumber_X6_in rfl rfl rfl (by decide +kernel) ⟨Nat.le_of_ble_eq_true rfl, Nat.le_of_ble_eq_true rfl⟩) hK hP hD hS hB hE [] rfl rfl rfl rfl rfl hl.1 rfl (Nat.le_of_ble_eq_true rfl) dX6_takesNumber_97 ⟨Nat.le_of_ble_eq_true rfl, Nat.le_of_ble_eq_true rfl⟩ (fun H locs hP hD hS => ?_)
          refine W.eq (g2 := F0 m 100 ls [.int r16]) rfl ?_
          refine lv_if_ne (tgt := 105) hx hb dX6_takesNumber_100 (by decide) (fun c18 => ?_) (fun c18 => ?_)
          · have hf := if_n c18 hf
            refine lv_aload_n hx hb dX6_takesNumber_105 rfl (lv_at hl 1 rfl) ?_
            refine lv_iload_n hx hb dX6_takesNumber_106 rfl (lv_at hl 0 rfl) ?_
            refine va_put (D := D) (ci := 6) (v := .int ((((10 : Int32) * ((mtx mfi.toNatClampNeg) - 48)) + (mtx ((mfi + 1).toNatClampNeg))) - 48)) (ty := .int) (C := RX6) (T := TX6) (N := 23) hx hb hts w0 tyX6 tyX6_ok nmX6 hown hK hP hD hS 0 rfl rfl 18 (by decide) w5 (fun _ h9 => h9) rfl (by decide +kernel) rfl rfl (Nat.le_of_ble_eq_true rfl) dX6_takesNumber_107 (fun H locs hP hD hS => ?_)
            have hP : va_P D vwCl [(ma, .inr (6, [.int mst, .int mwy, .int mmk, .int mwt, .ref m1, .ref m2, .ref m3, .ref m4, .int mun, .ref m5, .ref m6, .int mln, .int mfi, .int mbe, .int mrs, .int mrw, .int mcl, .int mdo, .int ((((10 : Int32) * ((mtx mfi.toNatClampNeg) - 48)) + (mtx ((mfi + 1).toNatClampNeg))) - 48), .ref m7, .ref m8, .ref m9, .ref m10])), (m1, .inl (cI, 24, .inl mvl)), (m2, .inl (cI, 96, .inl mof)), (m3, .inl (cI, 168, .inl mw)), (m4, .inl (cF, 288, .inr (.inr (.inl mf)))), (m5, .inl (cZ, 2, .inl mik)), (m6, .inl (cI, 200, .inl mtx)), (m7, .inl (cI, 56, .inl mwd)), (m8, .inl (cI, 3, .inl msz)), (m9, .inl (cI, 3, .inl mso)), (m10, .inl (cI, 24, .inl mpl))] H := hP
            have hD : va_D A [(ma, .inr (6, [.int mst, .int mwy, .int mmk, .int mwt, .ref m1, .ref m2, .ref m3, .ref m4, .int mun, .ref m5, .ref m6, .int mln, .int mfi, .int mbe, .int mrs, .int mrw, .int mcl, .int mdo, .int ((((10 : Int32) * ((mtx mfi.toNatClampNeg) - 48)) + (mtx ((mfi + 1).toNatClampNeg))) - 48), .ref m7, .ref m8, .ref m9, .ref m10])), (m1, .inl (cI, 24, .inl mvl)), (m2, .inl (cI, 96, .inl mof)), (m3, .inl (cI, 168, .inl mw)), (m4, .inl (cF, 288, .inr (.inr (.inl mf)))), (m5, .inl (cZ, 2, .inl mik)), (m6, .inl (cI, 200, .inl mtx)), (m7, .inl (cI, 56, .inl mwd)), (m8, .inl (cI, 3, .inl msz)), (m9, .inl (cI, 3, .inl mso)), (m10, .inl (cI, 24, .inl mpl))] := hD
            refine lv_aload_n hx hb dX6_takesNumber_110 rfl (lv_at hl 1 rfl) ?_
            obtain ⟨⟨o19, o20⟩, hc21, hf⟩ := bd_inv hf
            refine xcV (As := []) (rest := []) (ws' := [(ma, .inr (6, [.int mst, .int mwy, .int mmk, .int mwt, .ref m1, .ref m2, .ref m3, .ref m4, .int mun, .ref m5, .ref m6, .int mln, .int o19, .int o20, .int mrs, .int mrw, .int mcl, .int mdo, .int ((((10 : Int32) * ((mtx mfi.toNatClampNeg) - 48)) + (mtx ((mfi + 1).toNatClampNeg))) - 48), .ref m7, .ref m8, .ref m9, .ref m10])), (m1, .inl (cI, 24, .inl mvl)), (m2, .inl (cI, 96, .inl mof)), (m3, .inl (cI, 168, .inl mw)), (m4, .inl (cF, 288, .inr (.inr (.inl mf)))), (m5, .inl (cZ, 2, .inl mik)), (m6, .inl (cI, 200, .inl mtx)), (m7, .inl (cI, 56, .inl mwd)), (m8, .inl (cI, 3, .inl msz)), (m9, .inl (cI, 3, .inl mso)), (m10, .inl (cI, 24, .inl mpl))]) ⟨hx, hb, hml, hown, hts⟩ (c_X6_nextToken l D B adK adV cC cF cI cZ cM cS ma mst mwy mmk mwt m1 m2 m3 m4 mun m5 m6 mln mfi mbe mrs mrw mcl mdo ((((10 : Int32) * ((mtx mfi.toNatClampNeg) - 48)) + (mtx ((mfi + 1).toNatClampNeg))) - 48) m7 m8 m9 m10 mvl mof mw mf mik mtx mwd msz mso mpl  (o19, o20) hc21) (cwV 0 hts gX6_takesNumber_X6_nextToken rfl rfl rfl (by decide +kernel) ⟨Nat.le_of_ble_eq_true rfl, Nat.le_of_ble_eq_true rfl⟩) (va_recv hK hP (ci := 6) (q0 := 0) rfl rfl) hK hP hD hS hB hE [0, 1, 2, 3, 4, 5, 6, 7, 8, 9, 10] rfl rfl rfl rfl rfl hl.1 rfl (Nat.le_of_ble_eq_true rfl) dX6_takesNumber_111 ⟨Nat.le_of_ble_eq_true rfl, Nat.le_of_ble_eq_true rfl⟩ (fun H locs hP hD hS => ?_)
            refine W.eq (g2 := F0 m 114 ls []) rfl ?_
            refine lv_iconst (v := 1) hx hb dX6_takesNumber_114 (by decide) ?_
            have h1 := Option.some.inj hf
            subst h1
            rw [hQ]
            exact W.zret (v := 1) (ty := .boolean) hx hb hr rfl (fun t ht hW => qEnd hP hS ht) hS.2.2 dX6_takesNumber_115
          · have hf := if_p c18 hf
            refine lv_iconst (v := 0) hx hb dX6_takesNumber_103 (by decide) ?_
            have h1 := Option.some.inj hf
            subst h1
            rw [hQ]
            exact W.zret (v := 0) (ty := .boolean) hx hb hr rfl (fun t ht hW => qEnd hP hS ht) hS.2.2 dX6_takesNumber_104
      · have hf := if_n c6 hf
        refine lv_iconst (v := 0) hx hb dX6_takesNumber_39 (by decide) ?_
        have h1 := Option.some.inj hf
        subst h1
        rw [hQ]
        exact W.zret (v := 0) (ty := .boolean) hx hb hr rfl (fun t ht hW => qEnd hP hS ht) hS.2.2 dX6_takesNumber_40
set_option maxRecDepth 100000 in
set_option maxHeartbeats 4000000 in
theorem c_X6_takesValue (l : Launch) (D : va_G) (B : Nat) (adK adV : Nat → Nat) (cC cF cI cZ cM cS : ClassId) (ma : Nat) (mst : Int32) (mwy : Int32) (mmk : Int32) (mwt : Int32) (m1 : Nat) (m2 : Nat) (m3 : Nat) (m4 : Nat) (mun : Int32) (m5 : Nat) (m6 : Nat) (mln : Int32) (mfi : Int32) (mbe : Int32) (mrs : Int32) (mrw : Int32) (mcl : Int32) (mdo : Int32) (mnu : Int32) (m7 : Nat) (m8 : Nat) (m9 : Nat) (m10 : Nat) (mvl : Nat → Int32) (mof : Nat → Int32) (mw : Nat → Int32) (mf : Nat → UInt32) (mik : Nat → Int32) (mtx : Nat → Int32) (mwd : Nat → Int32) (msz : Nat → Int32) (mso : Nat → Int32) (mpl : Nat → Int32) (zz : Int32 × Int32 × Int32 × Int32) (hf : f_X6_takesValue mln mfi mbe mnu mtx = some zz) : Ct l yX6_takesValue wsX6_takesValue { frames := 4, cells := 0, slots := 0, locals := 89 } D B adK adV (tysX cC cF cI cZ cM cS) [.ref ma] [(ma, .inr (6, [.int mst, .int mwy, .int mmk, .int mwt, .ref m1, .ref m2, .ref m3, .ref m4, .int mun, .ref m5, .ref m6, .int mln, .int mfi, .int mbe, .int mrs, .int mrw, .int mcl, .int mdo, .int mnu, .ref m7, .ref m8, .ref m9, .ref m10])), (m1, .inl (cI, 24, .inl mvl)), (m2, .inl (cI, 96, .inl mof)), (m3, .inl (cI, 168, .inl mw)), (m4, .inl (cF, 288, .inr (.inr (.inl mf)))), (m5, .inl (cZ, 2, .inl mik)), (m6, .inl (cI, 200, .inl mtx)), (m7, .inl (cI, 56, .inl mwd)), (m8, .inl (cI, 3, .inl msz)), (m9, .inl (cI, 3, .inl mso)), (m10, .inl (cI, 24, .inl mpl))] [(ma, .inr (6, [.int mst, .int mwy, .int mmk, .int mwt, .ref m1, .ref m2, .ref m3, .ref m4, .int mun, .ref m5, .ref m6, .int mln, .int zz.2.1, .int zz.2.2.1, .int mrs, .int mrw, .int mcl, .int mdo, .int zz.2.2.2, .ref m7, .ref m8, .ref m9, .ref m10])), (m1, .inl (cI, 24, .inl mvl)), (m2, .inl (cI, 96, .inl mof)), (m3, .inl (cI, 168, .inl mw)), (m4, .inl (cF, 288, .inr (.inr (.inl mf)))), (m5, .inl (cZ, 2, .inl mik)), (m6, .inl (cI, 200, .inl mtx)), (m7, .inl (cI, 56, .inl mwd)), (m8, .inl (cI, 3, .inl msz)), (m9, .inl (cI, 3, .inl mso)), (m10, .inl (cI, 24, .inl mpl))] (some (.int zz.1)) := by
  refine Ct.ofW (cc := cX6_takesValue) (maxL := 2) (ret := (some .boolean)) (by decide) rfl (Nat.le_of_ble_eq_true rfl) ?_
  intro p e s m args below meth c hx hb hr hml hts hown hlocks hnm hK hE A Q hQ hB H locs ls hP hD hS hl
  have hl : lv_has ls 2 [(0, .ref ma)] := hl
  have w0 : ∀ w ∈ u_ws RX6 TX6 23, w ∈ wsX6_takesValue := by decide +kernel
  have w1 := hts (.fieldLink RX6 72 "MotionStatesModel" "first" "I") (by decide +kernel)
  have w2 := hts (.fieldLink RX6 58 "MotionStatesModel" "length" "I") (by decide +kernel)
  have w3 := hts (.fieldLink RX6 82 "MotionStatesModel" "number" "I") (by decide +kernel)
  have w4 := hts (.fieldLink RX6 31 "MotionStatesModel" "text" "[I") (by decide +kernel)
  unfold f_X6_takesValue at hf
  refine lv_aload_n hx hb dX6_takesValue_0 rfl (lv_at hl 0 rfl) ?_
  refine va_get (D := D) (ci := 6) (v := .int mfi) (C := RX6) (T := TX6) (N := 23) hx hb hts w0 hown hK hP 0 rfl rfl 12 (by decide) w1 (fun _ h9 => h9) rfl dX6_takesValue_1 ?_
  refine lv_aload_n hx hb dX6_takesValue_4 rfl (lv_at hl 0 rfl) ?_
  refine va_get (D := D) (ci := 6) (v := .int mln) (C := RX6) (T := TX6) (N := 23) hx hb hts w0 hown hK hP 0 rfl rfl 11 (by decide) w2 (fun _ h9 => h9) rfl dX6_takesValue_5 ?_
  refine lv_icmp_ge (tgt := 29) hx hb dX6_takesValue_8 (by decide) (fun c1 => ?_) (fun c1 => ?_)
  · have hf := if_p c1 hf
    refine lv_iconst (v := 0) hx hb dX6_takesValue_29 (by decide) ?_
    refine lv_istore_n (lv' := [(1, .int 0), (0, .ref ma)]) hx hb dX6_takesValue_30 rfl hl (by decide) rfl (fun ls hl => ?_)
    refine lv_iload_n hx hb dX6_takesValue_31 rfl (lv_at hl 0 rfl) ?_
    refine lv_if_eq (tgt := 39) hx hb dX6_takesValue_32 (by decide) (fun c2 => ?_) (fun c2 => absurd c2 (by decide))
    refine lv_aload_n hx hb dX6_takesValue_39 rfl (lv_at hl 1 rfl) ?_
    refine lv_iconst (v := 0) hx hb dX6_takesValue_40 (by decide) ?_
    refine lv_bipush (v := 99) hx hb dX6_takesValue_41 (by decide) ?_
    obtain ⟨⟨r3, o4, o5, o6⟩, hc7, hf⟩ := bd_inv hf
    refine xcV (As := [.int 0, .int 99]) (rest := []) (ws' := [(ma, .inr (6, [.int mst, .int mwy, .int mmk, .int mwt, .ref m1, .ref m2, .ref m3, .ref m4, .int mun, .ref m5, .ref m6, .int mln, .int o4, .int o5, .int mrs, .int mrw, .int mcl, .int mdo, .int o6, .ref m7, .ref m8, .ref m9, .ref m10])), (m1, .inl (cI, 24, .inl mvl)), (m2, .inl (cI, 96, .inl mof)), (m3, .inl (cI, 168, .inl mw)), (m4, .inl (cF, 288, .inr (.inr (.inl mf)))), (m5, .inl (cZ, 2, .inl mik)), (m6, .inl (cI, 200, .inl mtx)), (m7, .inl (cI, 56, .inl mwd)), (m8, .inl (cI, 3, .inl msz)), (m9, .inl (cI, 3, .inl mso)), (m10, .inl (cI, 24, .inl mpl))]) ⟨hx, hb, hml, hown, hts⟩ (c_X6_takesNumber l D B adK adV cC cF cI cZ cM cS ma mst mwy mmk mwt m1 m2 m3 m4 mun m5 m6 mln mfi mbe mrs mrw mcl mdo mnu m7 m8 m9 m10 mvl mof mw mf mik mtx mwd msz mso mpl 0 99  (r3, o4, o5, o6) hc7) (cwV 2 hts gX6_takesValue_X6_takesNumber rfl rfl rfl (by decide +kernel) ⟨Nat.le_of_ble_eq_true rfl, Nat.le_of_ble_eq_true rfl⟩) (va_recv hK hP (ci := 6) (q0 := 0) rfl rfl) hK hP hD hS hB hE [0, 1, 2, 3, 4, 5, 6, 7, 8, 9, 10] rfl rfl rfl rfl rfl hl.1 rfl (Nat.le_of_ble_eq_true rfl) dX6_takesValue_43 ⟨Nat.le_of_ble_eq_true rfl, Nat.le_of_ble_eq_true rfl⟩ (fun H locs hP hD hS => ?_)
    refine W.eq (g2 := F0 m 46 ls [.int r3]) rfl ?_
    refine lv_if_ne (tgt := 51) hx hb dX6_takesValue_46 (by decide) (fun c8 => ?_) (fun c8 => ?_)
    · have hf := if_n c8 hf
      refine lv_aload_n hx hb dX6_takesValue_51 rfl (lv_at hl 1 rfl) ?_
      refine lv_iload_n hx hb dX6_takesValue_52 rfl (lv_at hl 0 rfl) ?_
      refine lv_if_eq (tgt := 64) hx hb dX6_takesValue_53 (by decide) (fun c9 => ?_) (fun c9 => absurd c9 (by decide))
      refine lv_aload_n hx hb dX6_takesValue_64 rfl (lv_at hl 1 rfl) ?_
      refine va_get (D := D) (ci := 6) (v := .int o6) (C := RX6) (T := TX6) (N := 23) hx hb hts w0 hown hK hP 0 rfl rfl 18 (by decide) w3 (fun _ h9 => h9) rfl dX6_takesValue_65 ?_
      refine va_put (D := D) (ci := 6) (v := .int o6) (ty := .int) (C := RX6) (T := TX6) (N := 23) hx hb hts w0 tyX6 tyX6_ok nmX6 hown hK hP hD hS 0 rfl rfl 18 (by decide) w3 (fun _ h9 => h9) rfl (by decide +kernel) rfl rfl (Nat.le_of_ble_eq_true rfl) dX6_takesValue_68 (fun H locs hP hD hS => ?_)
      have hP : va_P D vwCl [(ma, .inr (6, [.int mst, .int mwy, .int mmk, .int mwt, .ref m1, .ref m2, .ref m3, .ref m4, .int mun, .ref m5, .ref m6, .int mln, .int o4, .int o5, .int mrs, .int mrw, .int mcl, .int mdo, .int o6, .ref m7, .ref m8, .ref m9, .ref m10])), (m1, .inl (cI, 24, .inl mvl)), (m2, .inl (cI, 96, .inl mof)), (m3, .inl (cI, 168, .inl mw)), (m4, .inl (cF, 288, .inr (.inr (.inl mf)))), (m5, .inl (cZ, 2, .inl mik)), (m6, .inl (cI, 200, .inl mtx)), (m7, .inl (cI, 56, .inl mwd)), (m8, .inl (cI, 3, .inl msz)), (m9, .inl (cI, 3, .inl mso)), (m10, .inl (cI, 24, .inl mpl))] H := hP
      have hD : va_D A [(ma, .inr (6, [.int mst, .int mwy, .int mmk, .int mwt, .ref m1, .ref m2, .ref m3, .ref m4, .int mun, .ref m5, .ref m6, .int mln, .int o4, .int o5, .int mrs, .int mrw, .int mcl, .int mdo, .int o6, .ref m7, .ref m8, .ref m9, .ref m10])), (m1, .inl (cI, 24, .inl mvl)), (m2, .inl (cI, 96, .inl mof)), (m3, .inl (cI, 168, .inl mw)), (m4, .inl (cF, 288, .inr (.inr (.inl mf)))), (m5, .inl (cZ, 2, .inl mik)), (m6, .inl (cI, 200, .inl mtx)), (m7, .inl (cI, 56, .inl mwd)), (m8, .inl (cI, 3, .inl msz)), (m9, .inl (cI, 3, .inl mso)), (m10, .inl (cI, 24, .inl mpl))] := hD
      refine lv_iconst (v := 1) hx hb dX6_takesValue_71 (by decide) ?_
      have h1 := Option.some.inj hf
      subst h1
      rw [hQ]
      exact W.zret (v := 1) (ty := .boolean) hx hb hr rfl (fun t ht hW => qEnd hP hS ht) hS.2.2 dX6_takesValue_72
    · have hf := if_p c8 hf
      refine lv_iconst (v := 0) hx hb dX6_takesValue_49 (by decide) ?_
      have h1 := Option.some.inj hf
      subst h1
      rw [hQ]
      exact W.zret (v := 0) (ty := .boolean) hx hb hr rfl (fun t ht hW => qEnd hP hS ht) hS.2.2 dX6_takesValue_50
  · have hf := if_n c1 hf
    refine lv_aload_n hx hb dX6_takesValue_11 rfl (lv_at hl 0 rfl) ?_
    refine va_get (D := D) (ci := 6) (v := .ref m6) (C := RX6) (T := TX6) (N := 23) hx hb hts w0 hown hK hP 0 rfl rfl 10 (by decide) w4 (fun _ h9 => h9) rfl dX6_takesValue_12 ?_
    refine lv_aload_n hx hb dX6_takesValue_15 rfl (lv_at hl 0 rfl) ?_
    refine va_get (D := D) (ci := 6) (v := .int mfi) (C := RX6) (T := TX6) (N := 23) hx hb hts w0 hown hK hP 0 rfl rfl 12 (by decide) w1 (fun _ h9 => h9) rfl dX6_takesValue_16 ?_
    obtain ⟨g10, hf⟩ := gd_inv hf
    refine va_iald hx hb hK hP 6 2 rfl rfl g10 dX6_takesValue_19 ?_
    refine lv_bipush (v := 45) hx hb dX6_takesValue_20 (by decide) ?_
    refine lv_icmp_ne (tgt := 29) hx hb dX6_takesValue_22 (by decide) (fun c11 => ?_) (fun c11 => ?_)
    · have hf := if_n c11 hf
      refine lv_iconst (v := 0) hx hb dX6_takesValue_29 (by decide) ?_
      refine lv_istore_n (lv' := [(1, .int 0), (0, .ref ma)]) hx hb dX6_takesValue_30 rfl hl (by decide) rfl (fun ls hl => ?_)
      refine lv_iload_n hx hb dX6_takesValue_31 rfl (lv_at hl 0 rfl) ?_
      refine lv_if_eq (tgt := 39) hx hb dX6_takesValue_32 (by decide) (fun c12 => ?_) (fun c12 => absurd c12 (by decide))
      refine lv_aload_n hx hb dX6_takesValue_39 rfl (lv_at hl 1 rfl) ?_
      refine lv_iconst (v := 0) hx hb dX6_takesValue_40 (by decide) ?_
      refine lv_bipush (v := 99) hx hb dX6_takesValue_41 (by decide) ?_
      obtain ⟨⟨r13, o14, o15, o16⟩, hc17, hf⟩ := bd_inv hf
      refine xcV (As := [.int 0, .int 99]) (rest := []) (ws' := [(ma, .inr (6, [.int mst, .int mwy, .int mmk, .int mwt, .ref m1, .ref m2, .ref m3, .ref m4, .int mun, .ref m5, .ref m6, .int mln, .int o14, .int o15, .int mrs, .int mrw, .int mcl, .int mdo, .int o16, .ref m7, .ref m8, .ref m9, .ref m10])), (m1, .inl (cI, 24, .inl mvl)), (m2, .inl (cI, 96, .inl mof)), (m3, .inl (cI, 168, .inl mw)), (m4, .inl (cF, 288, .inr (.inr (.inl mf)))), (m5, .inl (cZ, 2, .inl mik)), (m6, .inl (cI, 200, .inl mtx)), (m7, .inl (cI, 56, .inl mwd)), (m8, .inl (cI, 3, .inl msz)), (m9, .inl (cI, 3, .inl mso)), (m10, .inl (cI, 24, .inl mpl))]) ⟨hx, hb, hml, hown, hts⟩ (c_X6_takesNumber l D B adK adV cC cF cI cZ cM cS ma mst mwy mmk mwt m1 m2 m3 m4 mun m5 m6 mln mfi mbe mrs mrw mcl mdo mnu m7 m8 m9 m10 mvl mof mw mf mik mtx mwd msz mso mpl 0 99  (r13, o14, o15, o16) hc17) (cwV 2 hts gX6_takesValue_X6_takesNumber rfl rfl rfl (by decide +kernel) ⟨Nat.le_of_ble_eq_true rfl, Nat.le_of_ble_eq_true rfl⟩) (va_recv hK hP (ci := 6) (q0 := 0) rfl rfl) hK hP hD hS hB hE [0, 1, 2, 3, 4, 5, 6, 7, 8, 9, 10] rfl rfl rfl rfl rfl hl.1 rfl (Nat.le_of_ble_eq_true rfl) dX6_takesValue_43 ⟨Nat.le_of_ble_eq_true rfl, Nat.le_of_ble_eq_true rfl⟩ (fun H locs hP hD hS => ?_)
      refine W.eq (g2 := F0 m 46 ls [.int r13]) rfl ?_
      refine lv_if_ne (tgt := 51) hx hb dX6_takesValue_46 (by decide) (fun c18 => ?_) (fun c18 => ?_)
      · have hf := if_n c18 hf
        refine lv_aload_n hx hb dX6_takesValue_51 rfl (lv_at hl 1 rfl) ?_
        refine lv_iload_n hx hb dX6_takesValue_52 rfl (lv_at hl 0 rfl) ?_
        refine lv_if_eq (tgt := 64) hx hb dX6_takesValue_53 (by decide) (fun c19 => ?_) (fun c19 => absurd c19 (by decide))
        refine lv_aload_n hx hb dX6_takesValue_64 rfl (lv_at hl 1 rfl) ?_
        refine va_get (D := D) (ci := 6) (v := .int o16) (C := RX6) (T := TX6) (N := 23) hx hb hts w0 hown hK hP 0 rfl rfl 18 (by decide) w3 (fun _ h9 => h9) rfl dX6_takesValue_65 ?_
        refine va_put (D := D) (ci := 6) (v := .int o16) (ty := .int) (C := RX6) (T := TX6) (N := 23) hx hb hts w0 tyX6 tyX6_ok nmX6 hown hK hP hD hS 0 rfl rfl 18 (by decide) w3 (fun _ h9 => h9) rfl (by decide +kernel) rfl rfl (Nat.le_of_ble_eq_true rfl) dX6_takesValue_68 (fun H locs hP hD hS => ?_)
        have hP : va_P D vwCl [(ma, .inr (6, [.int mst, .int mwy, .int mmk, .int mwt, .ref m1, .ref m2, .ref m3, .ref m4, .int mun, .ref m5, .ref m6, .int mln, .int o14, .int o15, .int mrs, .int mrw, .int mcl, .int mdo, .int o16, .ref m7, .ref m8, .ref m9, .ref m10])), (m1, .inl (cI, 24, .inl mvl)), (m2, .inl (cI, 96, .inl mof)), (m3, .inl (cI, 168, .inl mw)), (m4, .inl (cF, 288, .inr (.inr (.inl mf)))), (m5, .inl (cZ, 2, .inl mik)), (m6, .inl (cI, 200, .inl mtx)), (m7, .inl (cI, 56, .inl mwd)), (m8, .inl (cI, 3, .inl msz)), (m9, .inl (cI, 3, .inl mso)), (m10, .inl (cI, 24, .inl mpl))] H := hP
        have hD : va_D A [(ma, .inr (6, [.int mst, .int mwy, .int mmk, .int mwt, .ref m1, .ref m2, .ref m3, .ref m4, .int mun, .ref m5, .ref m6, .int mln, .int o14, .int o15, .int mrs, .int mrw, .int mcl, .int mdo, .int o16, .ref m7, .ref m8, .ref m9, .ref m10])), (m1, .inl (cI, 24, .inl mvl)), (m2, .inl (cI, 96, .inl mof)), (m3, .inl (cI, 168, .inl mw)), (m4, .inl (cF, 288, .inr (.inr (.inl mf)))), (m5, .inl (cZ, 2, .inl mik)), (m6, .inl (cI, 200, .inl mtx)), (m7, .inl (cI, 56, .inl mwd)), (m8, .inl (cI, 3, .inl msz)), (m9, .inl (cI, 3, .inl mso)), (m10, .inl (cI, 24, .inl mpl))] := hD
        refine lv_iconst (v := 1) hx hb dX6_takesValue_71 (by decide) ?_
        have h1 := Option.some.inj hf
        subst h1
        rw [hQ]
        exact W.zret (v := 1) (ty := .boolean) hx hb hr rfl (fun t ht hW => qEnd hP hS ht) hS.2.2 dX6_takesValue_72
      · have hf := if_p c18 hf
        refine lv_iconst (v := 0) hx hb dX6_takesValue_49 (by decide) ?_
        have h1 := Option.some.inj hf
        subst h1
        rw [hQ]
        exact W.zret (v := 0) (ty := .boolean) hx hb hr rfl (fun t ht hW => qEnd hP hS ht) hS.2.2 dX6_takesValue_50
    · have hf := if_p c11 hf
      refine lv_iconst (v := 1) hx hb dX6_takesValue_25 (by decide) ?_
      refine lv_goto (tgt := 30) hx hb dX6_takesValue_26 (by decide) ?_
      refine lv_istore_n (lv' := [(1, .int 1), (0, .ref ma)]) hx hb dX6_takesValue_30 rfl hl (by decide) rfl (fun ls hl => ?_)
      refine lv_iload_n hx hb dX6_takesValue_31 rfl (lv_at hl 0 rfl) ?_
      refine lv_if_eq (tgt := 39) hx hb dX6_takesValue_32 (by decide) (fun c20 => absurd c20 (by decide)) (fun c20 => ?_)
      refine lv_aload_n hx hb dX6_takesValue_35 rfl (lv_at hl 1 rfl) ?_
      obtain ⟨⟨o21, o22⟩, hc23, hf⟩ := bd_inv hf
      refine xcV (As := []) (rest := []) (ws' := [(ma, .inr (6, [.int mst, .int mwy, .int mmk, .int mwt, .ref m1, .ref m2, .ref m3, .ref m4, .int mun, .ref m5, .ref m6, .int mln, .int o21, .int o22, .int mrs, .int mrw, .int mcl, .int mdo, .int mnu, .ref m7, .ref m8, .ref m9, .ref m10])), (m1, .inl (cI, 24, .inl mvl)), (m2, .inl (cI, 96, .inl mof)), (m3, .inl (cI, 168, .inl mw)), (m4, .inl (cF, 288, .inr (.inr (.inl mf)))), (m5, .inl (cZ, 2, .inl mik)), (m6, .inl (cI, 200, .inl mtx)), (m7, .inl (cI, 56, .inl mwd)), (m8, .inl (cI, 3, .inl msz)), (m9, .inl (cI, 3, .inl mso)), (m10, .inl (cI, 24, .inl mpl))]) ⟨hx, hb, hml, hown, hts⟩ (c_X6_nextToken l D B adK adV cC cF cI cZ cM cS ma mst mwy mmk mwt m1 m2 m3 m4 mun m5 m6 mln mfi mbe mrs mrw mcl mdo mnu m7 m8 m9 m10 mvl mof mw mf mik mtx mwd msz mso mpl  (o21, o22) hc23) (cwV 0 hts gX6_takesValue_X6_nextToken rfl rfl rfl (by decide +kernel) ⟨Nat.le_of_ble_eq_true rfl, Nat.le_of_ble_eq_true rfl⟩) (va_recv hK hP (ci := 6) (q0 := 0) rfl rfl) hK hP hD hS hB hE [0, 1, 2, 3, 4, 5, 6, 7, 8, 9, 10] rfl rfl rfl rfl rfl hl.1 rfl (Nat.le_of_ble_eq_true rfl) dX6_takesValue_36 ⟨Nat.le_of_ble_eq_true rfl, Nat.le_of_ble_eq_true rfl⟩ (fun H locs hP hD hS => ?_)
      refine W.eq (g2 := F0 m 39 ls []) rfl ?_
      refine lv_aload_n hx hb dX6_takesValue_39 rfl (lv_at hl 1 rfl) ?_
      refine lv_iconst (v := 0) hx hb dX6_takesValue_40 (by decide) ?_
      refine lv_bipush (v := 99) hx hb dX6_takesValue_41 (by decide) ?_
      obtain ⟨⟨r24, o25, o26, o27⟩, hc28, hf⟩ := bd_inv hf
      refine xcV (As := [.int 0, .int 99]) (rest := []) (ws' := [(ma, .inr (6, [.int mst, .int mwy, .int mmk, .int mwt, .ref m1, .ref m2, .ref m3, .ref m4, .int mun, .ref m5, .ref m6, .int mln, .int o25, .int o26, .int mrs, .int mrw, .int mcl, .int mdo, .int o27, .ref m7, .ref m8, .ref m9, .ref m10])), (m1, .inl (cI, 24, .inl mvl)), (m2, .inl (cI, 96, .inl mof)), (m3, .inl (cI, 168, .inl mw)), (m4, .inl (cF, 288, .inr (.inr (.inl mf)))), (m5, .inl (cZ, 2, .inl mik)), (m6, .inl (cI, 200, .inl mtx)), (m7, .inl (cI, 56, .inl mwd)), (m8, .inl (cI, 3, .inl msz)), (m9, .inl (cI, 3, .inl mso)), (m10, .inl (cI, 24, .inl mpl))]) ⟨hx, hb, hml, hown, hts⟩ (c_X6_takesNumber l D B adK adV cC cF cI cZ cM cS ma mst mwy mmk mwt m1 m2 m3 m4 mun m5 m6 mln o21 o22 mrs mrw mcl mdo mnu m7 m8 m9 m10 mvl mof mw mf mik mtx mwd msz mso mpl 0 99  (r24, o25, o26, o27) hc28) (cwV 2 hts gX6_takesValue_X6_takesNumber rfl rfl rfl (by decide +kernel) ⟨Nat.le_of_ble_eq_true rfl, Nat.le_of_ble_eq_true rfl⟩) (va_recv hK hP (ci := 6) (q0 := 0) rfl rfl) hK hP hD hS hB hE [0, 1, 2, 3, 4, 5, 6, 7, 8, 9, 10] rfl rfl rfl rfl rfl hl.1 rfl (Nat.le_of_ble_eq_true rfl) dX6_takesValue_43 ⟨Nat.le_of_ble_eq_true rfl, Nat.le_of_ble_eq_true rfl⟩ (fun H locs hP hD hS => ?_)
      refine W.eq (g2 := F0 m 46 ls [.int r24]) rfl ?_
      refine lv_if_ne (tgt := 51) hx hb dX6_takesValue_46 (by decide) (fun c29 => ?_) (fun c29 => ?_)
      · have hf := if_n c29 hf
        refine lv_aload_n hx hb dX6_takesValue_51 rfl (lv_at hl 1 rfl) ?_
        refine lv_iload_n hx hb dX6_takesValue_52 rfl (lv_at hl 0 rfl) ?_
        refine lv_if_eq (tgt := 64) hx hb dX6_takesValue_53 (by decide) (fun c30 => absurd c30 (by decide)) (fun c30 => ?_)
        refine lv_aload_n hx hb dX6_takesValue_56 rfl (lv_at hl 1 rfl) ?_
        refine va_get (D := D) (ci := 6) (v := .int o27) (C := RX6) (T := TX6) (N := 23) hx hb hts w0 hown hK hP 0 rfl rfl 18 (by decide) w3 (fun _ h9 => h9) rfl dX6_takesValue_57 ?_
        refine lv_ineg hx hb dX6_takesValue_60 ?_
        refine lv_goto (tgt := 68) hx hb dX6_takesValue_61 (by decide) ?_
        refine va_put (D := D) (ci := 6) (v := .int (-o27)) (ty := .int) (C := RX6) (T := TX6) (N := 23) hx hb hts w0 tyX6 tyX6_ok nmX6 hown hK hP hD hS 0 rfl rfl 18 (by decide) w3 (fun _ h9 => h9) rfl (by decide +kernel) rfl rfl (Nat.le_of_ble_eq_true rfl) dX6_takesValue_68 (fun H locs hP hD hS => ?_)
        have hP : va_P D vwCl [(ma, .inr (6, [.int mst, .int mwy, .int mmk, .int mwt, .ref m1, .ref m2, .ref m3, .ref m4, .int mun, .ref m5, .ref m6, .int mln, .int o25, .int o26, .int mrs, .int mrw, .int mcl, .int mdo, .int (-o27), .ref m7, .ref m8, .ref m9, .ref m10])), (m1, .inl (cI, 24, .inl mvl)), (m2, .inl (cI, 96, .inl mof)), (m3, .inl (cI, 168, .inl mw)), (m4, .inl (cF, 288, .inr (.inr (.inl mf)))), (m5, .inl (cZ, 2, .inl mik)), (m6, .inl (cI, 200, .inl mtx)), (m7, .inl (cI, 56, .inl mwd)), (m8, .inl (cI, 3, .inl msz)), (m9, .inl (cI, 3, .inl mso)), (m10, .inl (cI, 24, .inl mpl))] H := hP
        have hD : va_D A [(ma, .inr (6, [.int mst, .int mwy, .int mmk, .int mwt, .ref m1, .ref m2, .ref m3, .ref m4, .int mun, .ref m5, .ref m6, .int mln, .int o25, .int o26, .int mrs, .int mrw, .int mcl, .int mdo, .int (-o27), .ref m7, .ref m8, .ref m9, .ref m10])), (m1, .inl (cI, 24, .inl mvl)), (m2, .inl (cI, 96, .inl mof)), (m3, .inl (cI, 168, .inl mw)), (m4, .inl (cF, 288, .inr (.inr (.inl mf)))), (m5, .inl (cZ, 2, .inl mik)), (m6, .inl (cI, 200, .inl mtx)), (m7, .inl (cI, 56, .inl mwd)), (m8, .inl (cI, 3, .inl msz)), (m9, .inl (cI, 3, .inl mso)), (m10, .inl (cI, 24, .inl mpl))] := hD
        refine lv_iconst (v := 1) hx hb dX6_takesValue_71 (by decide) ?_
        have h1 := Option.some.inj hf
        subst h1
        rw [hQ]
        exact W.zret (v := 1) (ty := .boolean) hx hb hr rfl (fun t ht hW => qEnd hP hS ht) hS.2.2 dX6_takesValue_72
      · have hf := if_p c29 hf
        refine lv_iconst (v := 0) hx hb dX6_takesValue_49 (by decide) ?_
        have h1 := Option.some.inj hf
        subst h1
        rw [hQ]
        exact W.zret (v := 0) (ty := .boolean) hx hb hr rfl (fun t ht hW => qEnd hP hS ht) hS.2.2 dX6_takesValue_50
set_option maxRecDepth 100000 in
set_option maxHeartbeats 4000000 in
theorem c_X6_takesState (l : Launch) (D : va_G) (B : Nat) (adK adV : Nat → Nat) (cC cF cI cZ cM cS : ClassId) (ma : Nat) (mst : Int32) (mwy : Int32) (mmk : Int32) (mwt : Int32) (m1 : Nat) (m2 : Nat) (m3 : Nat) (m4 : Nat) (mun : Int32) (m5 : Nat) (m6 : Nat) (mln : Int32) (mfi : Int32) (mbe : Int32) (mrs : Int32) (mrw : Int32) (mcl : Int32) (mdo : Int32) (mnu : Int32) (m7 : Nat) (m8 : Nat) (m9 : Nat) (m10 : Nat) (mvl : Nat → Int32) (mof : Nat → Int32) (mw : Nat → Int32) (mf : Nat → UInt32) (mik : Nat → Int32) (mtx : Nat → Int32) (mwd : Nat → Int32) (msz : Nat → Int32) (mso : Nat → Int32) (mpl : Nat → Int32) (zz : Int32 × (Nat → Int32) × Int32 × Int32 × Int32 × Int32) (hf : f_X6_takesState mln mfi mbe mrs mdo mnu mvl mtx = some zz) : Ct l yX6_takesState wsX6_takesState { frames := 5, cells := 0, slots := 0, locals := 110 } D B adK adV (tysX cC cF cI cZ cM cS) [.ref ma] [(ma, .inr (6, [.int mst, .int mwy, .int mmk, .int mwt, .ref m1, .ref m2, .ref m3, .ref m4, .int mun, .ref m5, .ref m6, .int mln, .int mfi, .int mbe, .int mrs, .int mrw, .int mcl, .int mdo, .int mnu, .ref m7, .ref m8, .ref m9, .ref m10])), (m1, .inl (cI, 24, .inl mvl)), (m2, .inl (cI, 96, .inl mof)), (m3, .inl (cI, 168, .inl mw)), (m4, .inl (cF, 288, .inr (.inr (.inl mf)))), (m5, .inl (cZ, 2, .inl mik)), (m6, .inl (cI, 200, .inl mtx)), (m7, .inl (cI, 56, .inl mwd)), (m8, .inl (cI, 3, .inl msz)), (m9, .inl (cI, 3, .inl mso)), (m10, .inl (cI, 24, .inl mpl))] [(ma, .inr (6, [.int mst, .int mwy, .int mmk, .int mwt, .ref m1, .ref m2, .ref m3, .ref m4, .int mun, .ref m5, .ref m6, .int mln, .int zz.2.2.1, .int zz.2.2.2.1, .int zz.2.2.2.2.1, .int mrw, .int mcl, .int mdo, .int zz.2.2.2.2.2, .ref m7, .ref m8, .ref m9, .ref m10])), (m1, .inl (cI, 24, .inl zz.2.1)), (m2, .inl (cI, 96, .inl mof)), (m3, .inl (cI, 168, .inl mw)), (m4, .inl (cF, 288, .inr (.inr (.inl mf)))), (m5, .inl (cZ, 2, .inl mik)), (m6, .inl (cI, 200, .inl mtx)), (m7, .inl (cI, 56, .inl mwd)), (m8, .inl (cI, 3, .inl msz)), (m9, .inl (cI, 3, .inl mso)), (m10, .inl (cI, 24, .inl mpl))] (some (.int zz.1)) := by
  refine Ct.ofW (cc := cX6_takesState) (maxL := 2) (ret := (some .boolean)) (by decide) rfl (Nat.le_of_ble_eq_true rfl) ?_
  intro p e s m args below meth c hx hb hr hml hts hown hlocks hnm hK hE A Q hQ hB H locs ls hP hD hS hl
  have hl : lv_has ls 2 [(0, .ref ma)] := hl
  have w0 : ∀ w ∈ u_ws RX6 TX6 23, w ∈ wsX6_takesState := by decide +kernel
  have w1 := hts (.fieldLink RX6 100 "MotionStatesModel" "readStates" "I") (by decide +kernel)
  have w2 := hts (.fieldLink RX6 96 "MotionStatesModel" "doing" "Z") (by decide +kernel)
  have w3 := hts (.fieldLink RX6 13 "MotionStatesModel" "values" "[I") (by decide +kernel)
  have w4 := hts (.fieldLink RX6 82 "MotionStatesModel" "number" "I") (by decide +kernel)
  have L2 : ∀ (n : Nat) (x1_2 : Int32) (mfi_2 : Int32) (mbe_2 : Int32) (mnu_2 : Int32) (mvl_2 : Nat → Int32), f_X6_takesState_L2 mrs mln mtx mdo n x1_2 mfi_2 mbe_2 mnu_2 mvl_2 = some zz → ∀ (H : Heap) (locs : List Loc) (ls : Array Slot), va_P D vwCl [(ma, .inr (6, [.int mst, .int mwy, .int mmk, .int mwt, .ref m1, .ref m2, .ref m3, .ref m4, .int mun, .ref m5, .ref m6, .int mln, .int mfi_2, .int mbe_2, .int mrs, .int mrw, .int mcl, .int mdo, .int mnu_2, .ref m7, .ref m8, .ref m9, .ref m10])), (m1, .inl (cI, 24, .inl mvl_2)), (m2, .inl (cI, 96, .inl mof)), (m3, .inl (cI, 168, .inl mw)), (m4, .inl (cF, 288, .inr (.inr (.inl mf)))), (m5, .inl (cZ, 2, .inl mik)), (m6, .inl (cI, 200, .inl mtx)), (m7, .inl (cI, 56, .inl mwd)), (m8, .inl (cI, 3, .inl msz)), (m9, .inl (cI, 3, .inl mso)), (m10, .inl (cI, 24, .inl mpl))] H → va_D A [(ma, .inr (6, [.int mst, .int mwy, .int mmk, .int mwt, .ref m1, .ref m2, .ref m3, .ref m4, .int mun, .ref m5, .ref m6, .int mln, .int mfi_2, .int mbe_2, .int mrs, .int mrw, .int mcl, .int mdo, .int mnu_2, .ref m7, .ref m8, .ref m9, .ref m10])), (m1, .inl (cI, 24, .inl mvl_2)), (m2, .inl (cI, 96, .inl mof)), (m3, .inl (cI, 168, .inl mw)), (m4, .inl (cF, 288, .inr (.inr (.inl mf)))), (m5, .inl (cZ, 2, .inl mik)), (m6, .inl (cI, 200, .inl mtx)), (m7, .inl (cI, 56, .inl mwd)), (m8, .inl (cI, 3, .inl msz)), (m9, .inl (cI, 3, .inl mso)), (m10, .inl (cI, 24, .inl mpl))] → va_S A s.heap H locs → lv_has ls 2 [(1, .int x1_2), (0, .ref ma)] → W p l e { frames := 5, cells := 0, slots := 0, locals := 110 } s m args below meth c H locs 0 0 Q (F0 m 2 ls []) := by
    intro n
    induction n with
    | zero => intro x1_2 mfi_2 mbe_2 mnu_2 mvl_2 hf; exact absurd hf (by simp [f_X6_takesState_L2])
    | succ n ih =>
      intro x1_2 mfi_2 mbe_2 mnu_2 mvl_2 hf H locs ls hP hD hS hl
      rw [f_X6_takesState_L2] at hf
      refine lv_iload_n hx hb dX6_takesState_2 rfl (lv_at hl 0 rfl) ?_
      refine lv_iconst (v := 4) hx hb dX6_takesState_3 (by decide) ?_
      refine lv_icmp_ge (tgt := 46) hx hb dX6_takesState_4 (by decide) (fun c1 => ?_) (fun c1 => ?_)
      · have hf := if_p c1 hf
        refine lv_aload_n hx hb dX6_takesState_46 rfl (lv_at hl 1 rfl) ?_
        refine lv_dup hx hb dX6_takesState_47 rfl ?_
        refine va_get (D := D) (ci := 6) (v := .int mrs) (C := RX6) (T := TX6) (N := 23) hx hb hts w0 hown hK hP 0 rfl rfl 14 (by decide) w1 (fun _ h9 => h9) rfl dX6_takesState_48 ?_
        refine lv_iconst (v := 1) hx hb dX6_takesState_51 (by decide) ?_
        refine lv_iadd hx hb dX6_takesState_52 ?_
        refine va_put (D := D) (ci := 6) (v := .int (mrs + 1)) (ty := .int) (C := RX6) (T := TX6) (N := 23) hx hb hts w0 tyX6 tyX6_ok nmX6 hown hK hP hD hS 0 rfl rfl 14 (by decide) w1 (fun _ h9 => h9) rfl (by decide +kernel) rfl rfl (Nat.le_of_ble_eq_true rfl) dX6_takesState_53 (fun H locs hP hD hS => ?_)
        have hP : va_P D vwCl [(ma, .inr (6, [.int mst, .int mwy, .int mmk, .int mwt, .ref m1, .ref m2, .ref m3, .ref m4, .int mun, .ref m5, .ref m6, .int mln, .int mfi_2, .int mbe_2, .int (mrs + 1), .int mrw, .int mcl, .int mdo, .int mnu_2, .ref m7, .ref m8, .ref m9, .ref m10])), (m1, .inl (cI, 24, .inl mvl_2)), (m2, .inl (cI, 96, .inl mof)), (m3, .inl (cI, 168, .inl mw)), (m4, .inl (cF, 288, .inr (.inr (.inl mf)))), (m5, .inl (cZ, 2, .inl mik)), (m6, .inl (cI, 200, .inl mtx)), (m7, .inl (cI, 56, .inl mwd)), (m8, .inl (cI, 3, .inl msz)), (m9, .inl (cI, 3, .inl mso)), (m10, .inl (cI, 24, .inl mpl))] H := hP
        have hD : va_D A [(ma, .inr (6, [.int mst, .int mwy, .int mmk, .int mwt, .ref m1, .ref m2, .ref m3, .ref m4, .int mun, .ref m5, .ref m6, .int mln, .int mfi_2, .int mbe_2, .int (mrs + 1), .int mrw, .int mcl, .int mdo, .int mnu_2, .ref m7, .ref m8, .ref m9, .ref m10])), (m1, .inl (cI, 24, .inl mvl_2)), (m2, .inl (cI, 96, .inl mof)), (m3, .inl (cI, 168, .inl mw)), (m4, .inl (cF, 288, .inr (.inr (.inl mf)))), (m5, .inl (cZ, 2, .inl mik)), (m6, .inl (cI, 200, .inl mtx)), (m7, .inl (cI, 56, .inl mwd)), (m8, .inl (cI, 3, .inl msz)), (m9, .inl (cI, 3, .inl mso)), (m10, .inl (cI, 24, .inl mpl))] := hD
        refine lv_iconst (v := 1) hx hb dX6_takesState_56 (by decide) ?_
        have h1 := Option.some.inj hf
        subst h1
        rw [hQ]
        exact W.zret (v := 1) (ty := .boolean) hx hb hr rfl (fun t ht hW => qEnd hP hS ht) hS.2.2 dX6_takesState_57
      · have hf := if_n c1 hf
        refine lv_aload_n hx hb dX6_takesState_7 rfl (lv_at hl 1 rfl) ?_
        obtain ⟨⟨r2, o3, o4, o5⟩, hc6, hf⟩ := bd_inv hf
        refine xcV (As := []) (rest := []) (ws' := [(ma, .inr (6, [.int mst, .int mwy, .int mmk, .int mwt, .ref m1, .ref m2, .ref m3, .ref m4, .int mun, .ref m5, .ref m6, .int mln, .int o3, .int o4, .int mrs, .int mrw, .int mcl, .int mdo, .int o5, .ref m7, .ref m8, .ref m9, .ref m10])), (m1, .inl (cI, 24, .inl mvl_2)), (m2, .inl (cI, 96, .inl mof)), (m3, .inl (cI, 168, .inl mw)), (m4, .inl (cF, 288, .inr (.inr (.inl mf)))), (m5, .inl (cZ, 2, .inl mik)), (m6, .inl (cI, 200, .inl mtx)), (m7, .inl (cI, 56, .inl mwd)), (m8, .inl (cI, 3, .inl msz)), (m9, .inl (cI, 3, .inl mso)), (m10, .inl (cI, 24, .inl mpl))]) ⟨hx, hb, hml, hown, hts⟩ (c_X6_takesValue l D B adK adV cC cF cI cZ cM cS ma mst mwy mmk mwt m1 m2 m3 m4 mun m5 m6 mln mfi_2 mbe_2 mrs mrw mcl mdo mnu_2 m7 m8 m9 m10 mvl_2 mof mw mf mik mtx mwd msz mso mpl  (r2, o3, o4, o5) hc6) (cwV 0 hts gX6_takesState_X6_takesValue rfl rfl rfl (by decide +kernel) ⟨Nat.le_of_ble_eq_true rfl, Nat.le_of_ble_eq_true rfl⟩) (va_recv hK hP (ci := 6) (q0 := 0) rfl rfl) hK hP hD hS hB hE [0, 1, 2, 3, 4, 5, 6, 7, 8, 9, 10] rfl rfl rfl rfl rfl hl.1 rfl (Nat.le_of_ble_eq_true rfl) dX6_takesState_8 ⟨Nat.le_of_ble_eq_true rfl, Nat.le_of_ble_eq_true rfl⟩ (fun H locs hP hD hS => ?_)
        refine W.eq (g2 := F0 m 11 ls [.int r2]) rfl ?_
        refine lv_if_ne (tgt := 16) hx hb dX6_takesState_11 (by decide) (fun c7 => ?_) (fun c7 => ?_)
        · have hf := if_n c7 hf
          refine lv_aload_n hx hb dX6_takesState_16 rfl (lv_at hl 1 rfl) ?_
          refine va_get (D := D) (ci := 6) (v := .int mdo) (C := RX6) (T := TX6) (N := 23) hx hb hts w0 hown hK hP 0 rfl rfl 17 (by decide) w2 (fun _ h9 => h9) rfl dX6_takesState_17 ?_
          refine lv_if_eq (tgt := 40) hx hb dX6_takesState_20 (by decide) (fun c8 => ?_) (fun c8 => ?_)
          · have hf := if_p c8 hf
            refine lv_iinc (v := x1_2 + 1) (lv' := [(1, .int (x1_2 + 1)), (0, .ref ma)]) hx hb dX6_takesState_40 hl (k := 0) rfl rfl (by decide) rfl (fun ls hl => ?_)
            refine lv_goto (tgt := 2) hx hb dX6_takesState_43 (by decide) ?_
            exact ih (x1_2 + 1) o3 o4 o5 mvl_2 hf H locs ls hP hD hS (lv_sub hl [0, 1] rfl)
          · have hf := if_n c8 hf
            refine lv_aload_n hx hb dX6_takesState_23 rfl (lv_at hl 1 rfl) ?_
            refine va_get (D := D) (ci := 6) (v := .ref m1) (C := RX6) (T := TX6) (N := 23) hx hb hts w0 hown hK hP 0 rfl rfl 4 (by decide) w3 (fun _ h9 => h9) rfl dX6_takesState_24 ?_
            refine lv_iconst (v := 4) hx hb dX6_takesState_27 (by decide) ?_
            refine lv_aload_n hx hb dX6_takesState_28 rfl (lv_at hl 1 rfl) ?_
            refine va_get (D := D) (ci := 6) (v := .int mrs) (C := RX6) (T := TX6) (N := 23) hx hb hts w0 hown hK hP 0 rfl rfl 14 (by decide) w1 (fun _ h9 => h9) rfl dX6_takesState_29 ?_
            refine lv_imul hx hb dX6_takesState_32 ?_
            refine lv_iload_n hx hb dX6_takesState_33 rfl (lv_at hl 0 rfl) ?_
            refine lv_iadd hx hb dX6_takesState_34 ?_
            refine lv_aload_n hx hb dX6_takesState_35 rfl (lv_at hl 1 rfl) ?_
            refine va_get (D := D) (ci := 6) (v := .int o5) (C := RX6) (T := TX6) (N := 23) hx hb hts w0 hown hK hP 0 rfl rfl 18 (by decide) w4 (fun _ h9 => h9) rfl dX6_takesState_36 ?_
            obtain ⟨g9, hf⟩ := gd_inv hf
            refine va_iast hx hb hK hP hD hS 1 2 rfl rfl g9 dX6_takesState_39 (fun H locs hP hD hS => ?_)
            have hP : va_P D vwCl [(ma, .inr (6, [.int mst, .int mwy, .int mmk, .int mwt, .ref m1, .ref m2, .ref m3, .ref m4, .int mun, .ref m5, .ref m6, .int mln, .int o3, .int o4, .int mrs, .int mrw, .int mcl, .int mdo, .int o5, .ref m7, .ref m8, .ref m9, .ref m10])), (m1, .inl (cI, 24, .inl (upd mvl_2 ((((4 : Int32) * mrs) + x1_2).toNatClampNeg) o5))), (m2, .inl (cI, 96, .inl mof)), (m3, .inl (cI, 168, .inl mw)), (m4, .inl (cF, 288, .inr (.inr (.inl mf)))), (m5, .inl (cZ, 2, .inl mik)), (m6, .inl (cI, 200, .inl mtx)), (m7, .inl (cI, 56, .inl mwd)), (m8, .inl (cI, 3, .inl msz)), (m9, .inl (cI, 3, .inl mso)), (m10, .inl (cI, 24, .inl mpl))] H := hP
            have hD : va_D A [(ma, .inr (6, [.int mst, .int mwy, .int mmk, .int mwt, .ref m1, .ref m2, .ref m3, .ref m4, .int mun, .ref m5, .ref m6, .int mln, .int o3, .int o4, .int mrs, .int mrw, .int mcl, .int mdo, .int o5, .ref m7, .ref m8, .ref m9, .ref m10])), (m1, .inl (cI, 24, .inl (upd mvl_2 ((((4 : Int32) * mrs) + x1_2).toNatClampNeg) o5))), (m2, .inl (cI, 96, .inl mof)), (m3, .inl (cI, 168, .inl mw)), (m4, .inl (cF, 288, .inr (.inr (.inl mf)))), (m5, .inl (cZ, 2, .inl mik)), (m6, .inl (cI, 200, .inl mtx)), (m7, .inl (cI, 56, .inl mwd)), (m8, .inl (cI, 3, .inl msz)), (m9, .inl (cI, 3, .inl mso)), (m10, .inl (cI, 24, .inl mpl))] := hD
            refine lv_iinc (v := x1_2 + 1) (lv' := [(1, .int (x1_2 + 1)), (0, .ref ma)]) hx hb dX6_takesState_40 hl (k := 0) rfl rfl (by decide) rfl (fun ls hl => ?_)
            refine lv_goto (tgt := 2) hx hb dX6_takesState_43 (by decide) ?_
            exact ih (x1_2 + 1) o3 o4 o5 (upd mvl_2 ((((4 : Int32) * mrs) + x1_2).toNatClampNeg) o5) hf H locs ls hP hD hS (lv_sub hl [0, 1] rfl)
        · have hf := if_p c7 hf
          refine lv_iconst (v := 0) hx hb dX6_takesState_14 (by decide) ?_
          have h1 := Option.some.inj hf
          subst h1
          rw [hQ]
          exact W.zret (v := 0) (ty := .boolean) hx hb hr rfl (fun t ht hW => qEnd hP hS ht) hS.2.2 dX6_takesState_15
  unfold f_X6_takesState at hf
  refine lv_iconst (v := 0) hx hb dX6_takesState_0 (by decide) ?_
  refine lv_istore_n (lv' := [(1, .int 0), (0, .ref ma)]) hx hb dX6_takesState_1 rfl hl (by decide) rfl (fun ls hl => ?_)
  exact L2 1000 0 mfi mbe mnu mvl hf H locs ls hP hD hS (lv_sub hl [0, 1] rfl)
set_option maxRecDepth 100000 in
set_option maxHeartbeats 4000000 in
theorem c_X6_keeps (l : Launch) (D : va_G) (B : Nat) (adK adV : Nat → Nat) (cC cF cI cZ cM cS : ClassId) (ma : Nat) (mst : Int32) (mwy : Int32) (mmk : Int32) (mwt : Int32) (m1 : Nat) (m2 : Nat) (m3 : Nat) (m4 : Nat) (mun : Int32) (m5 : Nat) (m6 : Nat) (mln : Int32) (mfi : Int32) (mbe : Int32) (mrs : Int32) (mrw : Int32) (mcl : Int32) (mdo : Int32) (mnu : Int32) (m7 : Nat) (m8 : Nat) (m9 : Nat) (m10 : Nat) (mvl : Nat → Int32) (mof : Nat → Int32) (mw : Nat → Int32) (mf : Nat → UInt32) (mik : Nat → Int32) (mtx : Nat → Int32) (mwd : Nat → Int32) (msz : Nat → Int32) (mso : Nat → Int32) (mpl : Nat → Int32) (k : Int32) (v : Int32) (zz : (Nat → Int32)) (hf : f_X6_keeps mrw mdo mof k v = some zz) : Ct l yX6_keeps wsX6_keeps { frames := 0, cells := 0, slots := 0, locals := 0 } D B adK adV (tysX cC cF cI cZ cM cS) [.ref ma, .int k, .int v] [(ma, .inr (6, [.int mst, .int mwy, .int mmk, .int mwt, .ref m1, .ref m2, .ref m3, .ref m4, .int mun, .ref m5, .ref m6, .int mln, .int mfi, .int mbe, .int mrs, .int mrw, .int mcl, .int mdo, .int mnu, .ref m7, .ref m8, .ref m9, .ref m10])), (m1, .inl (cI, 24, .inl mvl)), (m2, .inl (cI, 96, .inl mof)), (m3, .inl (cI, 168, .inl mw)), (m4, .inl (cF, 288, .inr (.inr (.inl mf)))), (m5, .inl (cZ, 2, .inl mik)), (m6, .inl (cI, 200, .inl mtx)), (m7, .inl (cI, 56, .inl mwd)), (m8, .inl (cI, 3, .inl msz)), (m9, .inl (cI, 3, .inl mso)), (m10, .inl (cI, 24, .inl mpl))] [(ma, .inr (6, [.int mst, .int mwy, .int mmk, .int mwt, .ref m1, .ref m2, .ref m3, .ref m4, .int mun, .ref m5, .ref m6, .int mln, .int mfi, .int mbe, .int mrs, .int mrw, .int mcl, .int mdo, .int mnu, .ref m7, .ref m8, .ref m9, .ref m10])), (m1, .inl (cI, 24, .inl mvl)), (m2, .inl (cI, 96, .inl zz)), (m3, .inl (cI, 168, .inl mw)), (m4, .inl (cF, 288, .inr (.inr (.inl mf)))), (m5, .inl (cZ, 2, .inl mik)), (m6, .inl (cI, 200, .inl mtx)), (m7, .inl (cI, 56, .inl mwd)), (m8, .inl (cI, 3, .inl msz)), (m9, .inl (cI, 3, .inl mso)), (m10, .inl (cI, 24, .inl mpl))] none := by
  refine Ct.ofW (cc := cX6_keeps) (maxL := 3) (ret := none) (by decide) rfl (Nat.le_of_ble_eq_true rfl) ?_
  intro p e s m args below meth c hx hb hr hml hts hown hlocks hnm hK hE A Q hQ hB H locs ls hP hD hS hl
  have hl : lv_has ls 3 [(0, .ref ma), (1, .int k), (2, .int v)] := hl
  have w0 : ∀ w ∈ u_ws RX6 TX6 23, w ∈ wsX6_keeps := by decide +kernel
  have w1 := hts (.fieldLink RX6 96 "MotionStatesModel" "doing" "Z") (by decide +kernel)
  have w2 := hts (.fieldLink RX6 17 "MotionStatesModel" "of" "[I") (by decide +kernel)
  have w3 := hts (.fieldLink RX6 103 "MotionStatesModel" "readWays" "I") (by decide +kernel)
  unfold f_X6_keeps at hf
  refine lv_aload_n hx hb dX6_keeps_0 rfl (lv_at hl 0 rfl) ?_
  refine va_get (D := D) (ci := 6) (v := .int mdo) (C := RX6) (T := TX6) (N := 23) hx hb hts w0 hown hK hP 0 rfl rfl 17 (by decide) w1 (fun _ h9 => h9) rfl dX6_keeps_1 ?_
  refine lv_if_eq (tgt := 22) hx hb dX6_keeps_4 (by decide) (fun c1 => ?_) (fun c1 => ?_)
  · have hf := if_p c1 hf
    have h1 := Option.some.inj hf
    subst h1
    rw [hQ]
    exact W.vret hx hb hr (fun t ht hW => qEnd hP hS ht) hS.2.2 dX6_keeps_22
  · have hf := if_n c1 hf
    refine lv_aload_n hx hb dX6_keeps_7 rfl (lv_at hl 0 rfl) ?_
    refine va_get (D := D) (ci := 6) (v := .ref m2) (C := RX6) (T := TX6) (N := 23) hx hb hts w0 hown hK hP 0 rfl rfl 5 (by decide) w2 (fun _ h9 => h9) rfl dX6_keeps_8 ?_
    refine lv_bipush (v := 8) hx hb dX6_keeps_11 (by decide) ?_
    refine lv_aload_n hx hb dX6_keeps_13 rfl (lv_at hl 0 rfl) ?_
    refine va_get (D := D) (ci := 6) (v := .int mrw) (C := RX6) (T := TX6) (N := 23) hx hb hts w0 hown hK hP 0 rfl rfl 15 (by decide) w3 (fun _ h9 => h9) rfl dX6_keeps_14 ?_
    refine lv_imul hx hb dX6_keeps_17 ?_
    refine lv_iload_n hx hb dX6_keeps_18 rfl (lv_at hl 1 rfl) ?_
    refine lv_iadd hx hb dX6_keeps_19 ?_
    refine lv_iload_n hx hb dX6_keeps_20 rfl (lv_at hl 2 rfl) ?_
    obtain ⟨g2, hf⟩ := gd_inv hf
    refine va_iast hx hb hK hP hD hS 2 2 rfl rfl g2 dX6_keeps_21 (fun H locs hP hD hS => ?_)
    have hP : va_P D vwCl [(ma, .inr (6, [.int mst, .int mwy, .int mmk, .int mwt, .ref m1, .ref m2, .ref m3, .ref m4, .int mun, .ref m5, .ref m6, .int mln, .int mfi, .int mbe, .int mrs, .int mrw, .int mcl, .int mdo, .int mnu, .ref m7, .ref m8, .ref m9, .ref m10])), (m1, .inl (cI, 24, .inl mvl)), (m2, .inl (cI, 96, .inl (upd mof ((((8 : Int32) * mrw) + k).toNatClampNeg) v))), (m3, .inl (cI, 168, .inl mw)), (m4, .inl (cF, 288, .inr (.inr (.inl mf)))), (m5, .inl (cZ, 2, .inl mik)), (m6, .inl (cI, 200, .inl mtx)), (m7, .inl (cI, 56, .inl mwd)), (m8, .inl (cI, 3, .inl msz)), (m9, .inl (cI, 3, .inl mso)), (m10, .inl (cI, 24, .inl mpl))] H := hP
    have hD : va_D A [(ma, .inr (6, [.int mst, .int mwy, .int mmk, .int mwt, .ref m1, .ref m2, .ref m3, .ref m4, .int mun, .ref m5, .ref m6, .int mln, .int mfi, .int mbe, .int mrs, .int mrw, .int mcl, .int mdo, .int mnu, .ref m7, .ref m8, .ref m9, .ref m10])), (m1, .inl (cI, 24, .inl mvl)), (m2, .inl (cI, 96, .inl (upd mof ((((8 : Int32) * mrw) + k).toNatClampNeg) v))), (m3, .inl (cI, 168, .inl mw)), (m4, .inl (cF, 288, .inr (.inr (.inl mf)))), (m5, .inl (cZ, 2, .inl mik)), (m6, .inl (cI, 200, .inl mtx)), (m7, .inl (cI, 56, .inl mwd)), (m8, .inl (cI, 3, .inl msz)), (m9, .inl (cI, 3, .inl mso)), (m10, .inl (cI, 24, .inl mpl))] := hD
    have h1 := Option.some.inj hf
    subst h1
    rw [hQ]
    exact W.vret hx hb hr (fun t ht hW => qEnd hP hS ht) hS.2.2 dX6_keeps_22
set_option maxRecDepth 100000 in
set_option maxHeartbeats 4000000 in
theorem c_X6_takesFrom (l : Launch) (D : va_G) (B : Nat) (adK adV : Nat → Nat) (cC cF cI cZ cM cS : ClassId) (ma : Nat) (mst : Int32) (mwy : Int32) (mmk : Int32) (mwt : Int32) (m1 : Nat) (m2 : Nat) (m3 : Nat) (m4 : Nat) (mun : Int32) (m5 : Nat) (m6 : Nat) (mln : Int32) (mfi : Int32) (mbe : Int32) (mrs : Int32) (mrw : Int32) (mcl : Int32) (mdo : Int32) (mnu : Int32) (m7 : Nat) (m8 : Nat) (m9 : Nat) (m10 : Nat) (mvl : Nat → Int32) (mof : Nat → Int32) (mw : Nat → Int32) (mf : Nat → UInt32) (mik : Nat → Int32) (mtx : Nat → Int32) (mwd : Nat → Int32) (msz : Nat → Int32) (mso : Nat → Int32) (mpl : Nat → Int32) (zz : Int32 × Int32 × Int32 × Int32) (hf : f_X6_takesFrom mln mfi mbe mrs mnu mtx = some zz) : Ct l yX6_takesFrom wsX6_takesFrom { frames := 4, cells := 0, slots := 0, locals := 89 } D B adK adV (tysX cC cF cI cZ cM cS) [.ref ma] [(ma, .inr (6, [.int mst, .int mwy, .int mmk, .int mwt, .ref m1, .ref m2, .ref m3, .ref m4, .int mun, .ref m5, .ref m6, .int mln, .int mfi, .int mbe, .int mrs, .int mrw, .int mcl, .int mdo, .int mnu, .ref m7, .ref m8, .ref m9, .ref m10])), (m1, .inl (cI, 24, .inl mvl)), (m2, .inl (cI, 96, .inl mof)), (m3, .inl (cI, 168, .inl mw)), (m4, .inl (cF, 288, .inr (.inr (.inl mf)))), (m5, .inl (cZ, 2, .inl mik)), (m6, .inl (cI, 200, .inl mtx)), (m7, .inl (cI, 56, .inl mwd)), (m8, .inl (cI, 3, .inl msz)), (m9, .inl (cI, 3, .inl mso)), (m10, .inl (cI, 24, .inl mpl))] [(ma, .inr (6, [.int mst, .int mwy, .int mmk, .int mwt, .ref m1, .ref m2, .ref m3, .ref m4, .int mun, .ref m5, .ref m6, .int mln, .int zz.2.1, .int zz.2.2.1, .int mrs, .int mrw, .int mcl, .int mdo, .int zz.2.2.2, .ref m7, .ref m8, .ref m9, .ref m10])), (m1, .inl (cI, 24, .inl mvl)), (m2, .inl (cI, 96, .inl mof)), (m3, .inl (cI, 168, .inl mw)), (m4, .inl (cF, 288, .inr (.inr (.inl mf)))), (m5, .inl (cZ, 2, .inl mik)), (m6, .inl (cI, 200, .inl mtx)), (m7, .inl (cI, 56, .inl mwd)), (m8, .inl (cI, 3, .inl msz)), (m9, .inl (cI, 3, .inl mso)), (m10, .inl (cI, 24, .inl mpl))] (some (.int zz.1)) := by
  refine Ct.ofW (cc := cX6_takesFrom) (maxL := 3) (ret := (some .boolean)) (by decide) rfl (Nat.le_of_ble_eq_true rfl) ?_
  intro p e s m args below meth c hx hb hr hml hts hown hlocks hnm hK hE A Q hQ hB H locs ls hP hD hS hl
  have hl : lv_has ls 3 [(0, .ref ma)] := hl
  have w0 : ∀ w ∈ u_ws RX6 TX6 23, w ∈ wsX6_takesFrom := by decide +kernel
  have w1 := hts (.fieldLink RX6 72 "MotionStatesModel" "first" "I") (by decide +kernel)
  have w2 := hts (.fieldLink RX6 69 "MotionStatesModel" "behind" "I") (by decide +kernel)
  have w3 := hts (.fieldLink RX6 82 "MotionStatesModel" "number" "I") (by decide +kernel)
  have w4 := hts (.fieldLink RX6 100 "MotionStatesModel" "readStates" "I") (by decide +kernel)
  unfold f_X6_takesFrom at hf
  refine lv_aload_n hx hb dX6_takesFrom_0 rfl (lv_at hl 0 rfl) ?_
  refine va_get (D := D) (ci := 6) (v := .int mfi) (C := RX6) (T := TX6) (N := 23) hx hb hts w0 hown hK hP 0 rfl rfl 12 (by decide) w1 (fun _ h9 => h9) rfl dX6_takesFrom_1 ?_
  refine lv_istore_n (lv' := [(1, .int mfi), (0, .ref ma)]) hx hb dX6_takesFrom_4 rfl hl (by decide) rfl (fun ls hl => ?_)
  refine lv_aload_n hx hb dX6_takesFrom_5 rfl (lv_at hl 1 rfl) ?_
  refine va_get (D := D) (ci := 6) (v := .int mbe) (C := RX6) (T := TX6) (N := 23) hx hb hts w0 hown hK hP 0 rfl rfl 13 (by decide) w2 (fun _ h9 => h9) rfl dX6_takesFrom_6 ?_
  refine lv_istore_n (lv' := [(2, .int mbe), (1, .int mfi), (0, .ref ma)]) hx hb dX6_takesFrom_9 rfl hl (by decide) rfl (fun ls hl => ?_)
  refine lv_aload_n hx hb dX6_takesFrom_10 rfl (lv_at hl 2 rfl) ?_
  refine lv_iconst (v := 0) hx hb dX6_takesFrom_11 (by decide) ?_
  refine lv_bipush (v := 9) hx hb dX6_takesFrom_12 (by decide) ?_
  obtain ⟨⟨r1, o2, o3, o4⟩, hc5, hf⟩ := bd_inv hf
  refine xcV (As := [.int 0, .int 9]) (rest := []) (ws' := [(ma, .inr (6, [.int mst, .int mwy, .int mmk, .int mwt, .ref m1, .ref m2, .ref m3, .ref m4, .int mun, .ref m5, .ref m6, .int mln, .int o2, .int o3, .int mrs, .int mrw, .int mcl, .int mdo, .int o4, .ref m7, .ref m8, .ref m9, .ref m10])), (m1, .inl (cI, 24, .inl mvl)), (m2, .inl (cI, 96, .inl mof)), (m3, .inl (cI, 168, .inl mw)), (m4, .inl (cF, 288, .inr (.inr (.inl mf)))), (m5, .inl (cZ, 2, .inl mik)), (m6, .inl (cI, 200, .inl mtx)), (m7, .inl (cI, 56, .inl mwd)), (m8, .inl (cI, 3, .inl msz)), (m9, .inl (cI, 3, .inl mso)), (m10, .inl (cI, 24, .inl mpl))]) ⟨hx, hb, hml, hown, hts⟩ (c_X6_takesNumber l D B adK adV cC cF cI cZ cM cS ma mst mwy mmk mwt m1 m2 m3 m4 mun m5 m6 mln mfi mbe mrs mrw mcl mdo mnu m7 m8 m9 m10 mvl mof mw mf mik mtx mwd msz mso mpl 0 9  (r1, o2, o3, o4) hc5) (cwV 2 hts gX6_takesFrom_X6_takesNumber rfl rfl rfl (by decide +kernel) ⟨Nat.le_of_ble_eq_true rfl, Nat.le_of_ble_eq_true rfl⟩) (va_recv hK hP (ci := 6) (q0 := 0) rfl rfl) hK hP hD hS hB hE [0, 1, 2, 3, 4, 5, 6, 7, 8, 9, 10] rfl rfl rfl rfl rfl hl.1 rfl (Nat.le_of_ble_eq_true rfl) dX6_takesFrom_14 ⟨Nat.le_of_ble_eq_true rfl, Nat.le_of_ble_eq_true rfl⟩ (fun H locs hP hD hS => ?_)
  refine W.eq (g2 := F0 m 17 ls [.int r1]) rfl ?_
  refine lv_if_ne (tgt := 22) hx hb dX6_takesFrom_17 (by decide) (fun c6 => ?_) (fun c6 => ?_)
  · have hf := if_n c6 hf
    refine lv_aload_n hx hb dX6_takesFrom_22 rfl (lv_at hl 2 rfl) ?_
    refine va_get (D := D) (ci := 6) (v := .int o4) (C := RX6) (T := TX6) (N := 23) hx hb hts w0 hown hK hP 0 rfl rfl 18 (by decide) w3 (fun _ h9 => h9) rfl dX6_takesFrom_23 ?_
    refine lv_bipush (v := 9) hx hb dX6_takesFrom_26 (by decide) ?_
    refine lv_icmp_eq (tgt := 54) hx hb dX6_takesFrom_28 (by decide) (fun c7 => ?_) (fun c7 => ?_)
    · have hf := if_p c7 hf
      refine lv_iconst (v := 1) hx hb dX6_takesFrom_54 (by decide) ?_
      have h1 := Option.some.inj hf
      subst h1
      rw [hQ]
      exact W.zret (v := 1) (ty := .boolean) hx hb hr rfl (fun t ht hW => qEnd hP hS ht) hS.2.2 dX6_takesFrom_55
    · have hf := if_n c7 hf
      refine lv_aload_n hx hb dX6_takesFrom_31 rfl (lv_at hl 2 rfl) ?_
      refine va_get (D := D) (ci := 6) (v := .int o4) (C := RX6) (T := TX6) (N := 23) hx hb hts w0 hown hK hP 0 rfl rfl 18 (by decide) w3 (fun _ h9 => h9) rfl dX6_takesFrom_32 ?_
      refine lv_aload_n hx hb dX6_takesFrom_35 rfl (lv_at hl 2 rfl) ?_
      refine va_get (D := D) (ci := 6) (v := .int mrs) (C := RX6) (T := TX6) (N := 23) hx hb hts w0 hown hK hP 0 rfl rfl 14 (by decide) w4 (fun _ h9 => h9) rfl dX6_takesFrom_36 ?_
      refine lv_icmp_lt (tgt := 54) hx hb dX6_takesFrom_39 (by decide) (fun c8 => ?_) (fun c8 => ?_)
      · have hf := if_p c8 hf
        refine lv_iconst (v := 1) hx hb dX6_takesFrom_54 (by decide) ?_
        have h1 := Option.some.inj hf
        subst h1
        rw [hQ]
        exact W.zret (v := 1) (ty := .boolean) hx hb hr rfl (fun t ht hW => qEnd hP hS ht) hS.2.2 dX6_takesFrom_55
      · have hf := if_n c8 hf
        refine lv_aload_n hx hb dX6_takesFrom_42 rfl (lv_at hl 2 rfl) ?_
        refine lv_iload_n hx hb dX6_takesFrom_43 rfl (lv_at hl 1 rfl) ?_
        refine va_put (D := D) (ci := 6) (v := .int mfi) (ty := .int) (C := RX6) (T := TX6) (N := 23) hx hb hts w0 tyX6 tyX6_ok nmX6 hown hK hP hD hS 0 rfl rfl 12 (by decide) w1 (fun _ h9 => h9) rfl (by decide +kernel) rfl rfl (Nat.le_of_ble_eq_true rfl) dX6_takesFrom_44 (fun H locs hP hD hS => ?_)
        have hP : va_P D vwCl [(ma, .inr (6, [.int mst, .int mwy, .int mmk, .int mwt, .ref m1, .ref m2, .ref m3, .ref m4, .int mun, .ref m5, .ref m6, .int mln, .int mfi, .int o3, .int mrs, .int mrw, .int mcl, .int mdo, .int o4, .ref m7, .ref m8, .ref m9, .ref m10])), (m1, .inl (cI, 24, .inl mvl)), (m2, .inl (cI, 96, .inl mof)), (m3, .inl (cI, 168, .inl mw)), (m4, .inl (cF, 288, .inr (.inr (.inl mf)))), (m5, .inl (cZ, 2, .inl mik)), (m6, .inl (cI, 200, .inl mtx)), (m7, .inl (cI, 56, .inl mwd)), (m8, .inl (cI, 3, .inl msz)), (m9, .inl (cI, 3, .inl mso)), (m10, .inl (cI, 24, .inl mpl))] H := hP
        have hD : va_D A [(ma, .inr (6, [.int mst, .int mwy, .int mmk, .int mwt, .ref m1, .ref m2, .ref m3, .ref m4, .int mun, .ref m5, .ref m6, .int mln, .int mfi, .int o3, .int mrs, .int mrw, .int mcl, .int mdo, .int o4, .ref m7, .ref m8, .ref m9, .ref m10])), (m1, .inl (cI, 24, .inl mvl)), (m2, .inl (cI, 96, .inl mof)), (m3, .inl (cI, 168, .inl mw)), (m4, .inl (cF, 288, .inr (.inr (.inl mf)))), (m5, .inl (cZ, 2, .inl mik)), (m6, .inl (cI, 200, .inl mtx)), (m7, .inl (cI, 56, .inl mwd)), (m8, .inl (cI, 3, .inl msz)), (m9, .inl (cI, 3, .inl mso)), (m10, .inl (cI, 24, .inl mpl))] := hD
        refine lv_aload_n hx hb dX6_takesFrom_47 rfl (lv_at hl 2 rfl) ?_
        refine lv_iload_n hx hb dX6_takesFrom_48 rfl (lv_at hl 0 rfl) ?_
        refine va_put (D := D) (ci := 6) (v := .int mbe) (ty := .int) (C := RX6) (T := TX6) (N := 23) hx hb hts w0 tyX6 tyX6_ok nmX6 hown hK hP hD hS 0 rfl rfl 13 (by decide) w2 (fun _ h9 => h9) rfl (by decide +kernel) rfl rfl (Nat.le_of_ble_eq_true rfl) dX6_takesFrom_49 (fun H locs hP hD hS => ?_)
        have hP : va_P D vwCl [(ma, .inr (6, [.int mst, .int mwy, .int mmk, .int mwt, .ref m1, .ref m2, .ref m3, .ref m4, .int mun, .ref m5, .ref m6, .int mln, .int mfi, .int mbe, .int mrs, .int mrw, .int mcl, .int mdo, .int o4, .ref m7, .ref m8, .ref m9, .ref m10])), (m1, .inl (cI, 24, .inl mvl)), (m2, .inl (cI, 96, .inl mof)), (m3, .inl (cI, 168, .inl mw)), (m4, .inl (cF, 288, .inr (.inr (.inl mf)))), (m5, .inl (cZ, 2, .inl mik)), (m6, .inl (cI, 200, .inl mtx)), (m7, .inl (cI, 56, .inl mwd)), (m8, .inl (cI, 3, .inl msz)), (m9, .inl (cI, 3, .inl mso)), (m10, .inl (cI, 24, .inl mpl))] H := hP
        have hD : va_D A [(ma, .inr (6, [.int mst, .int mwy, .int mmk, .int mwt, .ref m1, .ref m2, .ref m3, .ref m4, .int mun, .ref m5, .ref m6, .int mln, .int mfi, .int mbe, .int mrs, .int mrw, .int mcl, .int mdo, .int o4, .ref m7, .ref m8, .ref m9, .ref m10])), (m1, .inl (cI, 24, .inl mvl)), (m2, .inl (cI, 96, .inl mof)), (m3, .inl (cI, 168, .inl mw)), (m4, .inl (cF, 288, .inr (.inr (.inl mf)))), (m5, .inl (cZ, 2, .inl mik)), (m6, .inl (cI, 200, .inl mtx)), (m7, .inl (cI, 56, .inl mwd)), (m8, .inl (cI, 3, .inl msz)), (m9, .inl (cI, 3, .inl mso)), (m10, .inl (cI, 24, .inl mpl))] := hD
        refine lv_iconst (v := 0) hx hb dX6_takesFrom_52 (by decide) ?_
        have h1 := Option.some.inj hf
        subst h1
        rw [hQ]
        exact W.zret (v := 0) (ty := .boolean) hx hb hr rfl (fun t ht hW => qEnd hP hS ht) hS.2.2 dX6_takesFrom_53
  · have hf := if_p c6 hf
    refine lv_iconst (v := 0) hx hb dX6_takesFrom_20 (by decide) ?_
    have h1 := Option.some.inj hf
    subst h1
    rw [hQ]
    exact W.zret (v := 0) (ty := .boolean) hx hb hr rfl (fun t ht hW => qEnd hP hS ht) hS.2.2 dX6_takesFrom_21
set_option maxRecDepth 100000 in
set_option maxHeartbeats 4000000 in
theorem c_X6_takesFrames (l : Launch) (D : va_G) (B : Nat) (adK adV : Nat → Nat) (cC cF cI cZ cM cS : ClassId) (ma : Nat) (mst : Int32) (mwy : Int32) (mmk : Int32) (mwt : Int32) (m1 : Nat) (m2 : Nat) (m3 : Nat) (m4 : Nat) (mun : Int32) (m5 : Nat) (m6 : Nat) (mln : Int32) (mfi : Int32) (mbe : Int32) (mrs : Int32) (mrw : Int32) (mcl : Int32) (mdo : Int32) (mnu : Int32) (m7 : Nat) (m8 : Nat) (m9 : Nat) (m10 : Nat) (mvl : Nat → Int32) (mof : Nat → Int32) (mw : Nat → Int32) (mf : Nat → UInt32) (mik : Nat → Int32) (mtx : Nat → Int32) (mwd : Nat → Int32) (msz : Nat → Int32) (mso : Nat → Int32) (mpl : Nat → Int32) (zz : Int32 × Int32 × Int32 × Int32) (hf : f_X6_takesFrames mln mfi mbe mnu mtx = some zz) : Ct l yX6_takesFrames wsX6_takesFrames { frames := 4, cells := 0, slots := 0, locals := 89 } D B adK adV (tysX cC cF cI cZ cM cS) [.ref ma] [(ma, .inr (6, [.int mst, .int mwy, .int mmk, .int mwt, .ref m1, .ref m2, .ref m3, .ref m4, .int mun, .ref m5, .ref m6, .int mln, .int mfi, .int mbe, .int mrs, .int mrw, .int mcl, .int mdo, .int mnu, .ref m7, .ref m8, .ref m9, .ref m10])), (m1, .inl (cI, 24, .inl mvl)), (m2, .inl (cI, 96, .inl mof)), (m3, .inl (cI, 168, .inl mw)), (m4, .inl (cF, 288, .inr (.inr (.inl mf)))), (m5, .inl (cZ, 2, .inl mik)), (m6, .inl (cI, 200, .inl mtx)), (m7, .inl (cI, 56, .inl mwd)), (m8, .inl (cI, 3, .inl msz)), (m9, .inl (cI, 3, .inl mso)), (m10, .inl (cI, 24, .inl mpl))] [(ma, .inr (6, [.int mst, .int mwy, .int mmk, .int mwt, .ref m1, .ref m2, .ref m3, .ref m4, .int mun, .ref m5, .ref m6, .int mln, .int zz.2.1, .int zz.2.2.1, .int mrs, .int mrw, .int mcl, .int mdo, .int zz.2.2.2, .ref m7, .ref m8, .ref m9, .ref m10])), (m1, .inl (cI, 24, .inl mvl)), (m2, .inl (cI, 96, .inl mof)), (m3, .inl (cI, 168, .inl mw)), (m4, .inl (cF, 288, .inr (.inr (.inl mf)))), (m5, .inl (cZ, 2, .inl mik)), (m6, .inl (cI, 200, .inl mtx)), (m7, .inl (cI, 56, .inl mwd)), (m8, .inl (cI, 3, .inl msz)), (m9, .inl (cI, 3, .inl mso)), (m10, .inl (cI, 24, .inl mpl))] (some (.int zz.1)) := by
  refine Ct.ofW (cc := cX6_takesFrames) (maxL := 3) (ret := (some .boolean)) (by decide) rfl (Nat.le_of_ble_eq_true rfl) ?_
  intro p e s m args below meth c hx hb hr hml hts hown hlocks hnm hK hE A Q hQ hB H locs ls hP hD hS hl
  have hl : lv_has ls 3 [(0, .ref ma)] := hl
  have w0 : ∀ w ∈ u_ws RX6 TX6 23, w ∈ wsX6_takesFrames := by decide +kernel
  have w1 := hts (.fieldLink RX6 72 "MotionStatesModel" "first" "I") (by decide +kernel)
  have w2 := hts (.fieldLink RX6 69 "MotionStatesModel" "behind" "I") (by decide +kernel)
  have w3 := hts (.fieldLink RX6 82 "MotionStatesModel" "number" "I") (by decide +kernel)
  unfold f_X6_takesFrames at hf
  refine lv_aload_n hx hb dX6_takesFrames_0 rfl (lv_at hl 0 rfl) ?_
  refine va_get (D := D) (ci := 6) (v := .int mfi) (C := RX6) (T := TX6) (N := 23) hx hb hts w0 hown hK hP 0 rfl rfl 12 (by decide) w1 (fun _ h9 => h9) rfl dX6_takesFrames_1 ?_
  refine lv_istore_n (lv' := [(1, .int mfi), (0, .ref ma)]) hx hb dX6_takesFrames_4 rfl hl (by decide) rfl (fun ls hl => ?_)
  refine lv_aload_n hx hb dX6_takesFrames_5 rfl (lv_at hl 1 rfl) ?_
  refine va_get (D := D) (ci := 6) (v := .int mbe) (C := RX6) (T := TX6) (N := 23) hx hb hts w0 hown hK hP 0 rfl rfl 13 (by decide) w2 (fun _ h9 => h9) rfl dX6_takesFrames_6 ?_
  refine lv_istore_n (lv' := [(2, .int mbe), (1, .int mfi), (0, .ref ma)]) hx hb dX6_takesFrames_9 rfl hl (by decide) rfl (fun ls hl => ?_)
  refine lv_aload_n hx hb dX6_takesFrames_10 rfl (lv_at hl 2 rfl) ?_
  refine lv_iconst (v := 0) hx hb dX6_takesFrames_11 (by decide) ?_
  refine lv_bipush (v := 16) hx hb dX6_takesFrames_12 (by decide) ?_
  obtain ⟨⟨r1, o2, o3, o4⟩, hc5, hf⟩ := bd_inv hf
  refine xcV (As := [.int 0, .int 16]) (rest := []) (ws' := [(ma, .inr (6, [.int mst, .int mwy, .int mmk, .int mwt, .ref m1, .ref m2, .ref m3, .ref m4, .int mun, .ref m5, .ref m6, .int mln, .int o2, .int o3, .int mrs, .int mrw, .int mcl, .int mdo, .int o4, .ref m7, .ref m8, .ref m9, .ref m10])), (m1, .inl (cI, 24, .inl mvl)), (m2, .inl (cI, 96, .inl mof)), (m3, .inl (cI, 168, .inl mw)), (m4, .inl (cF, 288, .inr (.inr (.inl mf)))), (m5, .inl (cZ, 2, .inl mik)), (m6, .inl (cI, 200, .inl mtx)), (m7, .inl (cI, 56, .inl mwd)), (m8, .inl (cI, 3, .inl msz)), (m9, .inl (cI, 3, .inl mso)), (m10, .inl (cI, 24, .inl mpl))]) ⟨hx, hb, hml, hown, hts⟩ (c_X6_takesNumber l D B adK adV cC cF cI cZ cM cS ma mst mwy mmk mwt m1 m2 m3 m4 mun m5 m6 mln mfi mbe mrs mrw mcl mdo mnu m7 m8 m9 m10 mvl mof mw mf mik mtx mwd msz mso mpl 0 16  (r1, o2, o3, o4) hc5) (cwV 2 hts gX6_takesFrames_X6_takesNumber rfl rfl rfl (by decide +kernel) ⟨Nat.le_of_ble_eq_true rfl, Nat.le_of_ble_eq_true rfl⟩) (va_recv hK hP (ci := 6) (q0 := 0) rfl rfl) hK hP hD hS hB hE [0, 1, 2, 3, 4, 5, 6, 7, 8, 9, 10] rfl rfl rfl rfl rfl hl.1 rfl (Nat.le_of_ble_eq_true rfl) dX6_takesFrames_14 ⟨Nat.le_of_ble_eq_true rfl, Nat.le_of_ble_eq_true rfl⟩ (fun H locs hP hD hS => ?_)
  refine W.eq (g2 := F0 m 17 ls [.int r1]) rfl ?_
  refine lv_if_ne (tgt := 22) hx hb dX6_takesFrames_17 (by decide) (fun c6 => ?_) (fun c6 => ?_)
  · have hf := if_n c6 hf
    refine lv_aload_n hx hb dX6_takesFrames_22 rfl (lv_at hl 2 rfl) ?_
    refine va_get (D := D) (ci := 6) (v := .int o4) (C := RX6) (T := TX6) (N := 23) hx hb hts w0 hown hK hP 0 rfl rfl 18 (by decide) w3 (fun _ h9 => h9) rfl dX6_takesFrames_23 ?_
    obtain ⟨r7, hc8, hf⟩ := bd_inv hf
    refine xcS (As := [.int o4]) (rest := []) (ws' := [(ma, .inr (6, [.int mst, .int mwy, .int mmk, .int mwt, .ref m1, .ref m2, .ref m3, .ref m4, .int mun, .ref m5, .ref m6, .int mln, .int o2, .int o3, .int mrs, .int mrw, .int mcl, .int mdo, .int o4, .ref m7, .ref m8, .ref m9, .ref m10])), (m1, .inl (cI, 24, .inl mvl)), (m2, .inl (cI, 96, .inl mof)), (m3, .inl (cI, 168, .inl mw)), (m4, .inl (cF, 288, .inr (.inr (.inl mf)))), (m5, .inl (cZ, 2, .inl mik)), (m6, .inl (cI, 200, .inl mtx)), (m7, .inl (cI, 56, .inl mwd)), (m8, .inl (cI, 3, .inl msz)), (m9, .inl (cI, 3, .inl mso)), (m10, .inl (cI, 24, .inl mpl))]) ⟨hx, hb, hml, hown, hts⟩ (c_X6_isFrames l D B adK adV cC cF cI cZ cM cS o4  r7 hc8) (va_cwS 1 hts gX6_takesFrames_X6_isFrames rfl rfl rfl (by decide +kernel) ⟨Nat.le_of_ble_eq_true rfl, Nat.le_of_ble_eq_true rfl⟩) hK hP hD hS hB hE [] rfl rfl rfl rfl rfl hl.1 rfl (Nat.le_of_ble_eq_true rfl) dX6_takesFrames_26 ⟨Nat.le_of_ble_eq_true rfl, Nat.le_of_ble_eq_true rfl⟩ (fun H locs hP hD hS => ?_)
    refine W.eq (g2 := F0 m 29 ls [.int r7]) rfl ?_
    refine lv_if_ne (tgt := 44) hx hb dX6_takesFrames_29 (by decide) (fun c9 => ?_) (fun c9 => ?_)
    · have hf := if_n c9 hf
      refine lv_iconst (v := 1) hx hb dX6_takesFrames_44 (by decide) ?_
      have h1 := Option.some.inj hf
      subst h1
      rw [hQ]
      exact W.zret (v := 1) (ty := .boolean) hx hb hr rfl (fun t ht hW => qEnd hP hS ht) hS.2.2 dX6_takesFrames_45
    · have hf := if_p c9 hf
      refine lv_aload_n hx hb dX6_takesFrames_32 rfl (lv_at hl 2 rfl) ?_
      refine lv_iload_n hx hb dX6_takesFrames_33 rfl (lv_at hl 1 rfl) ?_
      refine va_put (D := D) (ci := 6) (v := .int mfi) (ty := .int) (C := RX6) (T := TX6) (N := 23) hx hb hts w0 tyX6 tyX6_ok nmX6 hown hK hP hD hS 0 rfl rfl 12 (by decide) w1 (fun _ h9 => h9) rfl (by decide +kernel) rfl rfl (Nat.le_of_ble_eq_true rfl) dX6_takesFrames_34 (fun H locs hP hD hS => ?_)
      have hP : va_P D vwCl [(ma, .inr (6, [.int mst, .int mwy, .int mmk, .int mwt, .ref m1, .ref m2, .ref m3, .ref m4, .int mun, .ref m5, .ref m6, .int mln, .int mfi, .int o3, .int mrs, .int mrw, .int mcl, .int mdo, .int o4, .ref m7, .ref m8, .ref m9, .ref m10])), (m1, .inl (cI, 24, .inl mvl)), (m2, .inl (cI, 96, .inl mof)), (m3, .inl (cI, 168, .inl mw)), (m4, .inl (cF, 288, .inr (.inr (.inl mf)))), (m5, .inl (cZ, 2, .inl mik)), (m6, .inl (cI, 200, .inl mtx)), (m7, .inl (cI, 56, .inl mwd)), (m8, .inl (cI, 3, .inl msz)), (m9, .inl (cI, 3, .inl mso)), (m10, .inl (cI, 24, .inl mpl))] H := hP
      have hD : va_D A [(ma, .inr (6, [.int mst, .int mwy, .int mmk, .int mwt, .ref m1, .ref m2, .ref m3, .ref m4, .int mun, .ref m5, .ref m6, .int mln, .int mfi, .int o3, .int mrs, .int mrw, .int mcl, .int mdo, .int o4, .ref m7, .ref m8, .ref m9, .ref m10])), (m1, .inl (cI, 24, .inl mvl)), (m2, .inl (cI, 96, .inl mof)), (m3, .inl (cI, 168, .inl mw)), (m4, .inl (cF, 288, .inr (.inr (.inl mf)))), (m5, .inl (cZ, 2, .inl mik)), (m6, .inl (cI, 200, .inl mtx)), (m7, .inl (cI, 56, .inl mwd)), (m8, .inl (cI, 3, .inl msz)), (m9, .inl (cI, 3, .inl mso)), (m10, .inl (cI, 24, .inl mpl))] := hD
      refine lv_aload_n hx hb dX6_takesFrames_37 rfl (lv_at hl 2 rfl) ?_
      refine lv_iload_n hx hb dX6_takesFrames_38 rfl (lv_at hl 0 rfl) ?_
      refine va_put (D := D) (ci := 6) (v := .int mbe) (ty := .int) (C := RX6) (T := TX6) (N := 23) hx hb hts w0 tyX6 tyX6_ok nmX6 hown hK hP hD hS 0 rfl rfl 13 (by decide) w2 (fun _ h9 => h9) rfl (by decide +kernel) rfl rfl (Nat.le_of_ble_eq_true rfl) dX6_takesFrames_39 (fun H locs hP hD hS => ?_)
      have hP : va_P D vwCl [(ma, .inr (6, [.int mst, .int mwy, .int mmk, .int mwt, .ref m1, .ref m2, .ref m3, .ref m4, .int mun, .ref m5, .ref m6, .int mln, .int mfi, .int mbe, .int mrs, .int mrw, .int mcl, .int mdo, .int o4, .ref m7, .ref m8, .ref m9, .ref m10])), (m1, .inl (cI, 24, .inl mvl)), (m2, .inl (cI, 96, .inl mof)), (m3, .inl (cI, 168, .inl mw)), (m4, .inl (cF, 288, .inr (.inr (.inl mf)))), (m5, .inl (cZ, 2, .inl mik)), (m6, .inl (cI, 200, .inl mtx)), (m7, .inl (cI, 56, .inl mwd)), (m8, .inl (cI, 3, .inl msz)), (m9, .inl (cI, 3, .inl mso)), (m10, .inl (cI, 24, .inl mpl))] H := hP
      have hD : va_D A [(ma, .inr (6, [.int mst, .int mwy, .int mmk, .int mwt, .ref m1, .ref m2, .ref m3, .ref m4, .int mun, .ref m5, .ref m6, .int mln, .int mfi, .int mbe, .int mrs, .int mrw, .int mcl, .int mdo, .int o4, .ref m7, .ref m8, .ref m9, .ref m10])), (m1, .inl (cI, 24, .inl mvl)), (m2, .inl (cI, 96, .inl mof)), (m3, .inl (cI, 168, .inl mw)), (m4, .inl (cF, 288, .inr (.inr (.inl mf)))), (m5, .inl (cZ, 2, .inl mik)), (m6, .inl (cI, 200, .inl mtx)), (m7, .inl (cI, 56, .inl mwd)), (m8, .inl (cI, 3, .inl msz)), (m9, .inl (cI, 3, .inl mso)), (m10, .inl (cI, 24, .inl mpl))] := hD
      refine lv_iconst (v := 0) hx hb dX6_takesFrames_42 (by decide) ?_
      have h1 := Option.some.inj hf
      subst h1
      rw [hQ]
      exact W.zret (v := 0) (ty := .boolean) hx hb hr rfl (fun t ht hW => qEnd hP hS ht) hS.2.2 dX6_takesFrames_43
  · have hf := if_p c6 hf
    refine lv_iconst (v := 0) hx hb dX6_takesFrames_20 (by decide) ?_
    have h1 := Option.some.inj hf
    subst h1
    rw [hQ]
    exact W.zret (v := 0) (ty := .boolean) hx hb hr rfl (fun t ht hW => qEnd hP hS ht) hS.2.2 dX6_takesFrames_21
set_option maxRecDepth 100000 in
set_option maxHeartbeats 4000000 in
theorem c_X6_takesCondition (l : Launch) (D : va_G) (B : Nat) (adK adV : Nat → Nat) (cC cF cI cZ cM cS : ClassId) (ma : Nat) (mst : Int32) (mwy : Int32) (mmk : Int32) (mwt : Int32) (m1 : Nat) (m2 : Nat) (m3 : Nat) (m4 : Nat) (mun : Int32) (m5 : Nat) (m6 : Nat) (mln : Int32) (mfi : Int32) (mbe : Int32) (mrs : Int32) (mrw : Int32) (mcl : Int32) (mdo : Int32) (mnu : Int32) (m7 : Nat) (m8 : Nat) (m9 : Nat) (m10 : Nat) (mvl : Nat → Int32) (mof : Nat → Int32) (mw : Nat → Int32) (mf : Nat → UInt32) (mik : Nat → Int32) (mtx : Nat → Int32) (mwd : Nat → Int32) (msz : Nat → Int32) (mso : Nat → Int32) (mpl : Nat → Int32) (zz : Int32 × (Nat → Int32) × Int32 × Int32 × Int32) (hf : f_X6_takesCondition mln mfi mbe mrw mdo mnu mof mtx mwd = some zz) : Ct l yX6_takesCondition wsX6_takesCondition { frames := 5, cells := 0, slots := 0, locals := 110 } D B adK adV (tysX cC cF cI cZ cM cS) [.ref ma] [(ma, .inr (6, [.int mst, .int mwy, .int mmk, .int mwt, .ref m1, .ref m2, .ref m3, .ref m4, .int mun, .ref m5, .ref m6, .int mln, .int mfi, .int mbe, .int mrs, .int mrw, .int mcl, .int mdo, .int mnu, .ref m7, .ref m8, .ref m9, .ref m10])), (m1, .inl (cI, 24, .inl mvl)), (m2, .inl (cI, 96, .inl mof)), (m3, .inl (cI, 168, .inl mw)), (m4, .inl (cF, 288, .inr (.inr (.inl mf)))), (m5, .inl (cZ, 2, .inl mik)), (m6, .inl (cI, 200, .inl mtx)), (m7, .inl (cI, 56, .inl mwd)), (m8, .inl (cI, 3, .inl msz)), (m9, .inl (cI, 3, .inl mso)), (m10, .inl (cI, 24, .inl mpl))] [(ma, .inr (6, [.int mst, .int mwy, .int mmk, .int mwt, .ref m1, .ref m2, .ref m3, .ref m4, .int mun, .ref m5, .ref m6, .int mln, .int zz.2.2.1, .int zz.2.2.2.1, .int mrs, .int mrw, .int mcl, .int mdo, .int zz.2.2.2.2, .ref m7, .ref m8, .ref m9, .ref m10])), (m1, .inl (cI, 24, .inl mvl)), (m2, .inl (cI, 96, .inl zz.2.1)), (m3, .inl (cI, 168, .inl mw)), (m4, .inl (cF, 288, .inr (.inr (.inl mf)))), (m5, .inl (cZ, 2, .inl mik)), (m6, .inl (cI, 200, .inl mtx)), (m7, .inl (cI, 56, .inl mwd)), (m8, .inl (cI, 3, .inl msz)), (m9, .inl (cI, 3, .inl mso)), (m10, .inl (cI, 24, .inl mpl))] (some (.int zz.1)) := by
  refine Ct.ofW (cc := cX6_takesCondition) (maxL := 3) (ret := (some .boolean)) (by decide) rfl (Nat.le_of_ble_eq_true rfl) ?_
  intro p e s m args below meth c hx hb hr hml hts hown hlocks hnm hK hE A Q hQ hB H locs ls hP hD hS hl
  have hl : lv_has ls 3 [(0, .ref ma)] := hl
  have w0 : ∀ w ∈ u_ws RX6 TX6 23, w ∈ wsX6_takesCondition := by decide +kernel
  have w1 := hts (.fieldLink RX6 82 "MotionStatesModel" "number" "I") (by decide +kernel)
  unfold f_X6_takesCondition at hf
  refine lv_aload_n hx hb dX6_takesCondition_0 rfl (lv_at hl 0 rfl) ?_
  refine lv_iconst (v := 5) hx hb dX6_takesCondition_1 (by decide) ?_
  refine lv_iconst (v := 4) hx hb dX6_takesCondition_2 (by decide) ?_
  obtain ⟨r1, hc2, hf⟩ := bd_inv hf
  refine xcV (As := [.int 5, .int 4]) (rest := []) (ws' := [(ma, .inr (6, [.int mst, .int mwy, .int mmk, .int mwt, .ref m1, .ref m2, .ref m3, .ref m4, .int mun, .ref m5, .ref m6, .int mln, .int mfi, .int mbe, .int mrs, .int mrw, .int mcl, .int mdo, .int mnu, .ref m7, .ref m8, .ref m9, .ref m10])), (m1, .inl (cI, 24, .inl mvl)), (m2, .inl (cI, 96, .inl mof)), (m3, .inl (cI, 168, .inl mw)), (m4, .inl (cF, 288, .inr (.inr (.inl mf)))), (m5, .inl (cZ, 2, .inl mik)), (m6, .inl (cI, 200, .inl mtx)), (m7, .inl (cI, 56, .inl mwd)), (m8, .inl (cI, 3, .inl msz)), (m9, .inl (cI, 3, .inl mso)), (m10, .inl (cI, 24, .inl mpl))]) ⟨hx, hb, hml, hown, hts⟩ (c_X6_wordHere l D B adK adV cC cF cI cZ cM cS ma mst mwy mmk mwt m1 m2 m3 m4 mun m5 m6 mln mfi mbe mrs mrw mcl mdo mnu m7 m8 m9 m10 mvl mof mw mf mik mtx mwd msz mso mpl 5 4  r1 hc2) (cwV 2 hts gX6_takesCondition_X6_wordHere rfl rfl rfl (by decide +kernel) ⟨Nat.le_of_ble_eq_true rfl, Nat.le_of_ble_eq_true rfl⟩) (va_recv hK hP (ci := 6) (q0 := 0) rfl rfl) hK hP hD hS hB hE [0, 1, 2, 3, 4, 5, 6, 7, 8, 9, 10] rfl rfl rfl rfl rfl hl.1 rfl (Nat.le_of_ble_eq_true rfl) dX6_takesCondition_3 ⟨Nat.le_of_ble_eq_true rfl, Nat.le_of_ble_eq_true rfl⟩ (fun H locs hP hD hS => ?_)
  refine W.eq (g2 := F0 m 6 ls [.int r1]) rfl ?_
  refine lv_istore_n (lv' := [(1, .int r1), (0, .ref ma)]) hx hb dX6_takesCondition_6 rfl hl (by decide) rfl (fun ls hl => ?_)
  refine lv_iload_n hx hb dX6_takesCondition_7 rfl (lv_at hl 0 rfl) ?_
  refine lv_iconst (v := (-1)) hx hb dX6_takesCondition_8 (by decide) ?_
  refine lv_icmp_ne (tgt := 14) hx hb dX6_takesCondition_9 (by decide) (fun c3 => ?_) (fun c3 => ?_)
  · have hf := if_n c3 hf
    refine lv_aload_n hx hb dX6_takesCondition_14 rfl (lv_at hl 1 rfl) ?_
    obtain ⟨⟨o4, o5⟩, hc6, hf⟩ := bd_inv hf
    refine xcV (As := []) (rest := []) (ws' := [(ma, .inr (6, [.int mst, .int mwy, .int mmk, .int mwt, .ref m1, .ref m2, .ref m3, .ref m4, .int mun, .ref m5, .ref m6, .int mln, .int o4, .int o5, .int mrs, .int mrw, .int mcl, .int mdo, .int mnu, .ref m7, .ref m8, .ref m9, .ref m10])), (m1, .inl (cI, 24, .inl mvl)), (m2, .inl (cI, 96, .inl mof)), (m3, .inl (cI, 168, .inl mw)), (m4, .inl (cF, 288, .inr (.inr (.inl mf)))), (m5, .inl (cZ, 2, .inl mik)), (m6, .inl (cI, 200, .inl mtx)), (m7, .inl (cI, 56, .inl mwd)), (m8, .inl (cI, 3, .inl msz)), (m9, .inl (cI, 3, .inl mso)), (m10, .inl (cI, 24, .inl mpl))]) ⟨hx, hb, hml, hown, hts⟩ (c_X6_nextToken l D B adK adV cC cF cI cZ cM cS ma mst mwy mmk mwt m1 m2 m3 m4 mun m5 m6 mln mfi mbe mrs mrw mcl mdo mnu m7 m8 m9 m10 mvl mof mw mf mik mtx mwd msz mso mpl  (o4, o5) hc6) (cwV 0 hts gX6_takesCondition_X6_nextToken rfl rfl rfl (by decide +kernel) ⟨Nat.le_of_ble_eq_true rfl, Nat.le_of_ble_eq_true rfl⟩) (va_recv hK hP (ci := 6) (q0 := 0) rfl rfl) hK hP hD hS hB hE [0, 1, 2, 3, 4, 5, 6, 7, 8, 9, 10] rfl rfl rfl rfl rfl hl.1 rfl (Nat.le_of_ble_eq_true rfl) dX6_takesCondition_15 ⟨Nat.le_of_ble_eq_true rfl, Nat.le_of_ble_eq_true rfl⟩ (fun H locs hP hD hS => ?_)
    refine W.eq (g2 := F0 m 18 ls []) rfl ?_
    refine lv_aload_n hx hb dX6_takesCondition_18 rfl (lv_at hl 1 rfl) ?_
    refine lv_iconst (v := 4) hx hb dX6_takesCondition_19 (by decide) ?_
    refine lv_iload_n hx hb dX6_takesCondition_20 rfl (lv_at hl 0 rfl) ?_
    obtain ⟨o7, hc8, hf⟩ := bd_inv hf
    refine xcV (As := [.int 4, .int r1]) (rest := []) (ws' := [(ma, .inr (6, [.int mst, .int mwy, .int mmk, .int mwt, .ref m1, .ref m2, .ref m3, .ref m4, .int mun, .ref m5, .ref m6, .int mln, .int o4, .int o5, .int mrs, .int mrw, .int mcl, .int mdo, .int mnu, .ref m7, .ref m8, .ref m9, .ref m10])), (m1, .inl (cI, 24, .inl mvl)), (m2, .inl (cI, 96, .inl o7)), (m3, .inl (cI, 168, .inl mw)), (m4, .inl (cF, 288, .inr (.inr (.inl mf)))), (m5, .inl (cZ, 2, .inl mik)), (m6, .inl (cI, 200, .inl mtx)), (m7, .inl (cI, 56, .inl mwd)), (m8, .inl (cI, 3, .inl msz)), (m9, .inl (cI, 3, .inl mso)), (m10, .inl (cI, 24, .inl mpl))]) ⟨hx, hb, hml, hown, hts⟩ (c_X6_keeps l D B adK adV cC cF cI cZ cM cS ma mst mwy mmk mwt m1 m2 m3 m4 mun m5 m6 mln o4 o5 mrs mrw mcl mdo mnu m7 m8 m9 m10 mvl mof mw mf mik mtx mwd msz mso mpl 4 r1  o7 hc8) (cwV 2 hts gX6_takesCondition_X6_keeps rfl rfl rfl (by decide +kernel) ⟨Nat.le_of_ble_eq_true rfl, Nat.le_of_ble_eq_true rfl⟩) (va_recv hK hP (ci := 6) (q0 := 0) rfl rfl) hK hP hD hS hB hE [0, 1, 2, 3, 4, 5, 6, 7, 8, 9, 10] rfl rfl rfl rfl rfl hl.1 rfl (Nat.le_of_ble_eq_true rfl) dX6_takesCondition_21 ⟨Nat.le_of_ble_eq_true rfl, Nat.le_of_ble_eq_true rfl⟩ (fun H locs hP hD hS => ?_)
    refine W.eq (g2 := F0 m 24 ls []) rfl ?_
    refine lv_aload_n hx hb dX6_takesCondition_24 rfl (lv_at hl 1 rfl) ?_
    refine lv_iconst (v := 5) hx hb dX6_takesCondition_25 (by decide) ?_
    refine lv_iconst (v := 0) hx hb dX6_takesCondition_26 (by decide) ?_
    obtain ⟨o9, hc10, hf⟩ := bd_inv hf
    refine xcV (As := [.int 5, .int 0]) (rest := []) (ws' := [(ma, .inr (6, [.int mst, .int mwy, .int mmk, .int mwt, .ref m1, .ref m2, .ref m3, .ref m4, .int mun, .ref m5, .ref m6, .int mln, .int o4, .int o5, .int mrs, .int mrw, .int mcl, .int mdo, .int mnu, .ref m7, .ref m8, .ref m9, .ref m10])), (m1, .inl (cI, 24, .inl mvl)), (m2, .inl (cI, 96, .inl o9)), (m3, .inl (cI, 168, .inl mw)), (m4, .inl (cF, 288, .inr (.inr (.inl mf)))), (m5, .inl (cZ, 2, .inl mik)), (m6, .inl (cI, 200, .inl mtx)), (m7, .inl (cI, 56, .inl mwd)), (m8, .inl (cI, 3, .inl msz)), (m9, .inl (cI, 3, .inl mso)), (m10, .inl (cI, 24, .inl mpl))]) ⟨hx, hb, hml, hown, hts⟩ (c_X6_keeps l D B adK adV cC cF cI cZ cM cS ma mst mwy mmk mwt m1 m2 m3 m4 mun m5 m6 mln o4 o5 mrs mrw mcl mdo mnu m7 m8 m9 m10 mvl o7 mw mf mik mtx mwd msz mso mpl 5 0  o9 hc10) (cwV 2 hts gX6_takesCondition_X6_keeps rfl rfl rfl (by decide +kernel) ⟨Nat.le_of_ble_eq_true rfl, Nat.le_of_ble_eq_true rfl⟩) (va_recv hK hP (ci := 6) (q0 := 0) rfl rfl) hK hP hD hS hB hE [0, 1, 2, 3, 4, 5, 6, 7, 8, 9, 10] rfl rfl rfl rfl rfl hl.1 rfl (Nat.le_of_ble_eq_true rfl) dX6_takesCondition_27 ⟨Nat.le_of_ble_eq_true rfl, Nat.le_of_ble_eq_true rfl⟩ (fun H locs hP hD hS => ?_)
    refine W.eq (g2 := F0 m 30 ls []) rfl ?_
    refine lv_aload_n hx hb dX6_takesCondition_30 rfl (lv_at hl 1 rfl) ?_
    refine lv_bipush (v := 6) hx hb dX6_takesCondition_31 (by decide) ?_
    refine lv_iconst (v := 0) hx hb dX6_takesCondition_33 (by decide) ?_
    obtain ⟨o11, hc12, hf⟩ := bd_inv hf
    refine xcV (As := [.int 6, .int 0]) (rest := []) (ws' := [(ma, .inr (6, [.int mst, .int mwy, .int mmk, .int mwt, .ref m1, .ref m2, .ref m3, .ref m4, .int mun, .ref m5, .ref m6, .int mln, .int o4, .int o5, .int mrs, .int mrw, .int mcl, .int mdo, .int mnu, .ref m7, .ref m8, .ref m9, .ref m10])), (m1, .inl (cI, 24, .inl mvl)), (m2, .inl (cI, 96, .inl o11)), (m3, .inl (cI, 168, .inl mw)), (m4, .inl (cF, 288, .inr (.inr (.inl mf)))), (m5, .inl (cZ, 2, .inl mik)), (m6, .inl (cI, 200, .inl mtx)), (m7, .inl (cI, 56, .inl mwd)), (m8, .inl (cI, 3, .inl msz)), (m9, .inl (cI, 3, .inl mso)), (m10, .inl (cI, 24, .inl mpl))]) ⟨hx, hb, hml, hown, hts⟩ (c_X6_keeps l D B adK adV cC cF cI cZ cM cS ma mst mwy mmk mwt m1 m2 m3 m4 mun m5 m6 mln o4 o5 mrs mrw mcl mdo mnu m7 m8 m9 m10 mvl o9 mw mf mik mtx mwd msz mso mpl 6 0  o11 hc12) (cwV 2 hts gX6_takesCondition_X6_keeps rfl rfl rfl (by decide +kernel) ⟨Nat.le_of_ble_eq_true rfl, Nat.le_of_ble_eq_true rfl⟩) (va_recv hK hP (ci := 6) (q0 := 0) rfl rfl) hK hP hD hS hB hE [0, 1, 2, 3, 4, 5, 6, 7, 8, 9, 10] rfl rfl rfl rfl rfl hl.1 rfl (Nat.le_of_ble_eq_true rfl) dX6_takesCondition_34 ⟨Nat.le_of_ble_eq_true rfl, Nat.le_of_ble_eq_true rfl⟩ (fun H locs hP hD hS => ?_)
    refine W.eq (g2 := F0 m 37 ls []) rfl ?_
    refine lv_iload_n hx hb dX6_takesCondition_37 rfl (lv_at hl 0 rfl) ?_
    refine lv_if_ne (tgt := 61) hx hb dX6_takesCondition_38 (by decide) (fun c13 => ?_) (fun c13 => ?_)
    · have hf := if_n c13 hf
      refine lv_aload_n hx hb dX6_takesCondition_61 rfl (lv_at hl 1 rfl) ?_
      refine lv_iconst (v := 0) hx hb dX6_takesCondition_62 (by decide) ?_
      refine lv_iconst (v := 2) hx hb dX6_takesCondition_63 (by decide) ?_
      obtain ⟨⟨r14, o15, o16, o17⟩, hc18, hf⟩ := bd_inv hf
      refine xcV (As := [.int 0, .int 2]) (rest := []) (ws' := [(ma, .inr (6, [.int mst, .int mwy, .int mmk, .int mwt, .ref m1, .ref m2, .ref m3, .ref m4, .int mun, .ref m5, .ref m6, .int mln, .int o15, .int o16, .int mrs, .int mrw, .int mcl, .int mdo, .int o17, .ref m7, .ref m8, .ref m9, .ref m10])), (m1, .inl (cI, 24, .inl mvl)), (m2, .inl (cI, 96, .inl o11)), (m3, .inl (cI, 168, .inl mw)), (m4, .inl (cF, 288, .inr (.inr (.inl mf)))), (m5, .inl (cZ, 2, .inl mik)), (m6, .inl (cI, 200, .inl mtx)), (m7, .inl (cI, 56, .inl mwd)), (m8, .inl (cI, 3, .inl msz)), (m9, .inl (cI, 3, .inl mso)), (m10, .inl (cI, 24, .inl mpl))]) ⟨hx, hb, hml, hown, hts⟩ (c_X6_takesNumber l D B adK adV cC cF cI cZ cM cS ma mst mwy mmk mwt m1 m2 m3 m4 mun m5 m6 mln o4 o5 mrs mrw mcl mdo mnu m7 m8 m9 m10 mvl o11 mw mf mik mtx mwd msz mso mpl 0 2  (r14, o15, o16, o17) hc18) (cwV 2 hts gX6_takesCondition_X6_takesNumber rfl rfl rfl (by decide +kernel) ⟨Nat.le_of_ble_eq_true rfl, Nat.le_of_ble_eq_true rfl⟩) (va_recv hK hP (ci := 6) (q0 := 0) rfl rfl) hK hP hD hS hB hE [0, 1, 2, 3, 4, 5, 6, 7, 8, 9, 10] rfl rfl rfl rfl rfl hl.1 rfl (Nat.le_of_ble_eq_true rfl) dX6_takesCondition_64 ⟨Nat.le_of_ble_eq_true rfl, Nat.le_of_ble_eq_true rfl⟩ (fun H locs hP hD hS => ?_)
      refine W.eq (g2 := F0 m 67 ls [.int r14]) rfl ?_
      refine lv_if_ne (tgt := 72) hx hb dX6_takesCondition_67 (by decide) (fun c19 => ?_) (fun c19 => ?_)
      · have hf := if_n c19 hf
        refine lv_aload_n hx hb dX6_takesCondition_72 rfl (lv_at hl 1 rfl) ?_
        refine lv_iconst (v := 5) hx hb dX6_takesCondition_73 (by decide) ?_
        refine lv_aload_n hx hb dX6_takesCondition_74 rfl (lv_at hl 1 rfl) ?_
        refine va_get (D := D) (ci := 6) (v := .int o17) (C := RX6) (T := TX6) (N := 23) hx hb hts w0 hown hK hP 0 rfl rfl 18 (by decide) w1 (fun _ h9 => h9) rfl dX6_takesCondition_75 ?_
        obtain ⟨o20, hc21, hf⟩ := bd_inv hf
        refine xcV (As := [.int 5, .int o17]) (rest := []) (ws' := [(ma, .inr (6, [.int mst, .int mwy, .int mmk, .int mwt, .ref m1, .ref m2, .ref m3, .ref m4, .int mun, .ref m5, .ref m6, .int mln, .int o15, .int o16, .int mrs, .int mrw, .int mcl, .int mdo, .int o17, .ref m7, .ref m8, .ref m9, .ref m10])), (m1, .inl (cI, 24, .inl mvl)), (m2, .inl (cI, 96, .inl o20)), (m3, .inl (cI, 168, .inl mw)), (m4, .inl (cF, 288, .inr (.inr (.inl mf)))), (m5, .inl (cZ, 2, .inl mik)), (m6, .inl (cI, 200, .inl mtx)), (m7, .inl (cI, 56, .inl mwd)), (m8, .inl (cI, 3, .inl msz)), (m9, .inl (cI, 3, .inl mso)), (m10, .inl (cI, 24, .inl mpl))]) ⟨hx, hb, hml, hown, hts⟩ (c_X6_keeps l D B adK adV cC cF cI cZ cM cS ma mst mwy mmk mwt m1 m2 m3 m4 mun m5 m6 mln o15 o16 mrs mrw mcl mdo o17 m7 m8 m9 m10 mvl o11 mw mf mik mtx mwd msz mso mpl 5 o17  o20 hc21) (cwV 2 hts gX6_takesCondition_X6_keeps rfl rfl rfl (by decide +kernel) ⟨Nat.le_of_ble_eq_true rfl, Nat.le_of_ble_eq_true rfl⟩) (va_recv hK hP (ci := 6) (q0 := 0) rfl rfl) hK hP hD hS hB hE [0, 1, 2, 3, 4, 5, 6, 7, 8, 9, 10] rfl rfl rfl rfl rfl hl.1 rfl (Nat.le_of_ble_eq_true rfl) dX6_takesCondition_78 ⟨Nat.le_of_ble_eq_true rfl, Nat.le_of_ble_eq_true rfl⟩ (fun H locs hP hD hS => ?_)
        refine W.eq (g2 := F0 m 81 ls []) rfl ?_
        refine lv_iload_n hx hb dX6_takesCondition_81 rfl (lv_at hl 0 rfl) ?_
        refine lv_iconst (v := 3) hx hb dX6_takesCondition_82 (by decide) ?_
        refine lv_icmp_eq (tgt := 103) hx hb dX6_takesCondition_83 (by decide) (fun c22 => ?_) (fun c22 => ?_)
        · have hf := if_p c22 hf
          refine lv_iconst (v := 1) hx hb dX6_takesCondition_103 (by decide) ?_
          have h1 := Option.some.inj hf
          subst h1
          rw [hQ]
          exact W.zret (v := 1) (ty := .boolean) hx hb hr rfl (fun t ht hW => qEnd hP hS ht) hS.2.2 dX6_takesCondition_104
        · have hf := if_n c22 hf
          refine lv_aload_n hx hb dX6_takesCondition_86 rfl (lv_at hl 1 rfl) ?_
          obtain ⟨⟨r23, o24, o25, o26⟩, hc27, hf⟩ := bd_inv hf
          refine xcV (As := []) (rest := []) (ws' := [(ma, .inr (6, [.int mst, .int mwy, .int mmk, .int mwt, .ref m1, .ref m2, .ref m3, .ref m4, .int mun, .ref m5, .ref m6, .int mln, .int o24, .int o25, .int mrs, .int mrw, .int mcl, .int mdo, .int o26, .ref m7, .ref m8, .ref m9, .ref m10])), (m1, .inl (cI, 24, .inl mvl)), (m2, .inl (cI, 96, .inl o20)), (m3, .inl (cI, 168, .inl mw)), (m4, .inl (cF, 288, .inr (.inr (.inl mf)))), (m5, .inl (cZ, 2, .inl mik)), (m6, .inl (cI, 200, .inl mtx)), (m7, .inl (cI, 56, .inl mwd)), (m8, .inl (cI, 3, .inl msz)), (m9, .inl (cI, 3, .inl mso)), (m10, .inl (cI, 24, .inl mpl))]) ⟨hx, hb, hml, hown, hts⟩ (c_X6_takesValue l D B adK adV cC cF cI cZ cM cS ma mst mwy mmk mwt m1 m2 m3 m4 mun m5 m6 mln o15 o16 mrs mrw mcl mdo o17 m7 m8 m9 m10 mvl o20 mw mf mik mtx mwd msz mso mpl  (r23, o24, o25, o26) hc27) (cwV 0 hts gX6_takesCondition_X6_takesValue rfl rfl rfl (by decide +kernel) ⟨Nat.le_of_ble_eq_true rfl, Nat.le_of_ble_eq_true rfl⟩) (va_recv hK hP (ci := 6) (q0 := 0) rfl rfl) hK hP hD hS hB hE [0, 1, 2, 3, 4, 5, 6, 7, 8, 9, 10] rfl rfl rfl rfl rfl hl.1 rfl (Nat.le_of_ble_eq_true rfl) dX6_takesCondition_87 ⟨Nat.le_of_ble_eq_true rfl, Nat.le_of_ble_eq_true rfl⟩ (fun H locs hP hD hS => ?_)
          refine W.eq (g2 := F0 m 90 ls [.int r23]) rfl ?_
          refine lv_istore_n (lv' := [(2, .int r23), (1, .int r1), (0, .ref ma)]) hx hb dX6_takesCondition_90 rfl hl (by decide) rfl (fun ls hl => ?_)
          refine lv_aload_n hx hb dX6_takesCondition_91 rfl (lv_at hl 2 rfl) ?_
          refine lv_bipush (v := 6) hx hb dX6_takesCondition_92 (by decide) ?_
          refine lv_aload_n hx hb dX6_takesCondition_94 rfl (lv_at hl 2 rfl) ?_
          refine va_get (D := D) (ci := 6) (v := .int o26) (C := RX6) (T := TX6) (N := 23) hx hb hts w0 hown hK hP 0 rfl rfl 18 (by decide) w1 (fun _ h9 => h9) rfl dX6_takesCondition_95 ?_
          obtain ⟨o28, hc29, hf⟩ := bd_inv hf
          refine xcV (As := [.int 6, .int o26]) (rest := []) (ws' := [(ma, .inr (6, [.int mst, .int mwy, .int mmk, .int mwt, .ref m1, .ref m2, .ref m3, .ref m4, .int mun, .ref m5, .ref m6, .int mln, .int o24, .int o25, .int mrs, .int mrw, .int mcl, .int mdo, .int o26, .ref m7, .ref m8, .ref m9, .ref m10])), (m1, .inl (cI, 24, .inl mvl)), (m2, .inl (cI, 96, .inl o28)), (m3, .inl (cI, 168, .inl mw)), (m4, .inl (cF, 288, .inr (.inr (.inl mf)))), (m5, .inl (cZ, 2, .inl mik)), (m6, .inl (cI, 200, .inl mtx)), (m7, .inl (cI, 56, .inl mwd)), (m8, .inl (cI, 3, .inl msz)), (m9, .inl (cI, 3, .inl mso)), (m10, .inl (cI, 24, .inl mpl))]) ⟨hx, hb, hml, hown, hts⟩ (c_X6_keeps l D B adK adV cC cF cI cZ cM cS ma mst mwy mmk mwt m1 m2 m3 m4 mun m5 m6 mln o24 o25 mrs mrw mcl mdo o26 m7 m8 m9 m10 mvl o20 mw mf mik mtx mwd msz mso mpl 6 o26  o28 hc29) (cwV 2 hts gX6_takesCondition_X6_keeps rfl rfl rfl (by decide +kernel) ⟨Nat.le_of_ble_eq_true rfl, Nat.le_of_ble_eq_true rfl⟩) (va_recv hK hP (ci := 6) (q0 := 0) rfl rfl) hK hP hD hS hB hE [0, 1, 2, 3, 4, 5, 6, 7, 8, 9, 10] rfl rfl rfl rfl rfl hl.1 rfl (Nat.le_of_ble_eq_true rfl) dX6_takesCondition_98 ⟨Nat.le_of_ble_eq_true rfl, Nat.le_of_ble_eq_true rfl⟩ (fun H locs hP hD hS => ?_)
          refine W.eq (g2 := F0 m 101 ls []) rfl ?_
          refine lv_iload_n hx hb dX6_takesCondition_101 rfl (lv_at hl 0 rfl) ?_
          obtain ⟨g30, hf⟩ := gd_inv hf
          have h1 := Option.some.inj hf
          subst h1
          rw [hQ]
          exact W.zret (v := r23) (ty := .boolean) hx hb hr (zok_n g30) (fun t ht hW => qEnd hP hS ht) hS.2.2 dX6_takesCondition_102
      · have hf := if_p c19 hf
        refine lv_iconst (v := 0) hx hb dX6_takesCondition_70 (by decide) ?_
        have h1 := Option.some.inj hf
        subst h1
        rw [hQ]
        exact W.zret (v := 0) (ty := .boolean) hx hb hr rfl (fun t ht hW => qEnd hP hS ht) hS.2.2 dX6_takesCondition_71
    · have hf := if_p c13 hf
      refine lv_aload_n hx hb dX6_takesCondition_41 rfl (lv_at hl 1 rfl) ?_
      refine lv_iconst (v := 0) hx hb dX6_takesCondition_42 (by decide) ?_
      refine lv_bipush (v := 99) hx hb dX6_takesCondition_43 (by decide) ?_
      obtain ⟨⟨r31, o32, o33, o34⟩, hc35, hf⟩ := bd_inv hf
      refine xcV (As := [.int 0, .int 99]) (rest := []) (ws' := [(ma, .inr (6, [.int mst, .int mwy, .int mmk, .int mwt, .ref m1, .ref m2, .ref m3, .ref m4, .int mun, .ref m5, .ref m6, .int mln, .int o32, .int o33, .int mrs, .int mrw, .int mcl, .int mdo, .int o34, .ref m7, .ref m8, .ref m9, .ref m10])), (m1, .inl (cI, 24, .inl mvl)), (m2, .inl (cI, 96, .inl o11)), (m3, .inl (cI, 168, .inl mw)), (m4, .inl (cF, 288, .inr (.inr (.inl mf)))), (m5, .inl (cZ, 2, .inl mik)), (m6, .inl (cI, 200, .inl mtx)), (m7, .inl (cI, 56, .inl mwd)), (m8, .inl (cI, 3, .inl msz)), (m9, .inl (cI, 3, .inl mso)), (m10, .inl (cI, 24, .inl mpl))]) ⟨hx, hb, hml, hown, hts⟩ (c_X6_takesNumber l D B adK adV cC cF cI cZ cM cS ma mst mwy mmk mwt m1 m2 m3 m4 mun m5 m6 mln o4 o5 mrs mrw mcl mdo mnu m7 m8 m9 m10 mvl o11 mw mf mik mtx mwd msz mso mpl 0 99  (r31, o32, o33, o34) hc35) (cwV 2 hts gX6_takesCondition_X6_takesNumber rfl rfl rfl (by decide +kernel) ⟨Nat.le_of_ble_eq_true rfl, Nat.le_of_ble_eq_true rfl⟩) (va_recv hK hP (ci := 6) (q0 := 0) rfl rfl) hK hP hD hS hB hE [0, 1, 2, 3, 4, 5, 6, 7, 8, 9, 10] rfl rfl rfl rfl rfl hl.1 rfl (Nat.le_of_ble_eq_true rfl) dX6_takesCondition_45 ⟨Nat.le_of_ble_eq_true rfl, Nat.le_of_ble_eq_true rfl⟩ (fun H locs hP hD hS => ?_)
      refine W.eq (g2 := F0 m 48 ls [.int r31]) rfl ?_
      refine lv_istore_n (lv' := [(2, .int r31), (1, .int r1), (0, .ref ma)]) hx hb dX6_takesCondition_48 rfl hl (by decide) rfl (fun ls hl => ?_)
      refine lv_aload_n hx hb dX6_takesCondition_49 rfl (lv_at hl 2 rfl) ?_
      refine lv_bipush (v := 6) hx hb dX6_takesCondition_50 (by decide) ?_
      refine lv_aload_n hx hb dX6_takesCondition_52 rfl (lv_at hl 2 rfl) ?_
      refine va_get (D := D) (ci := 6) (v := .int o34) (C := RX6) (T := TX6) (N := 23) hx hb hts w0 hown hK hP 0 rfl rfl 18 (by decide) w1 (fun _ h9 => h9) rfl dX6_takesCondition_53 ?_
      obtain ⟨o36, hc37, hf⟩ := bd_inv hf
      refine xcV (As := [.int 6, .int o34]) (rest := []) (ws' := [(ma, .inr (6, [.int mst, .int mwy, .int mmk, .int mwt, .ref m1, .ref m2, .ref m3, .ref m4, .int mun, .ref m5, .ref m6, .int mln, .int o32, .int o33, .int mrs, .int mrw, .int mcl, .int mdo, .int o34, .ref m7, .ref m8, .ref m9, .ref m10])), (m1, .inl (cI, 24, .inl mvl)), (m2, .inl (cI, 96, .inl o36)), (m3, .inl (cI, 168, .inl mw)), (m4, .inl (cF, 288, .inr (.inr (.inl mf)))), (m5, .inl (cZ, 2, .inl mik)), (m6, .inl (cI, 200, .inl mtx)), (m7, .inl (cI, 56, .inl mwd)), (m8, .inl (cI, 3, .inl msz)), (m9, .inl (cI, 3, .inl mso)), (m10, .inl (cI, 24, .inl mpl))]) ⟨hx, hb, hml, hown, hts⟩ (c_X6_keeps l D B adK adV cC cF cI cZ cM cS ma mst mwy mmk mwt m1 m2 m3 m4 mun m5 m6 mln o32 o33 mrs mrw mcl mdo o34 m7 m8 m9 m10 mvl o11 mw mf mik mtx mwd msz mso mpl 6 o34  o36 hc37) (cwV 2 hts gX6_takesCondition_X6_keeps rfl rfl rfl (by decide +kernel) ⟨Nat.le_of_ble_eq_true rfl, Nat.le_of_ble_eq_true rfl⟩) (va_recv hK hP (ci := 6) (q0 := 0) rfl rfl) hK hP hD hS hB hE [0, 1, 2, 3, 4, 5, 6, 7, 8, 9, 10] rfl rfl rfl rfl rfl hl.1 rfl (Nat.le_of_ble_eq_true rfl) dX6_takesCondition_56 ⟨Nat.le_of_ble_eq_true rfl, Nat.le_of_ble_eq_true rfl⟩ (fun H locs hP hD hS => ?_)
      refine W.eq (g2 := F0 m 59 ls []) rfl ?_
      refine lv_iload_n hx hb dX6_takesCondition_59 rfl (lv_at hl 0 rfl) ?_
      obtain ⟨g38, hf⟩ := gd_inv hf
      have h1 := Option.some.inj hf
      subst h1
      rw [hQ]
      exact W.zret (v := r31) (ty := .boolean) hx hb hr (zok_n g38) (fun t ht hW => qEnd hP hS ht) hS.2.2 dX6_takesCondition_60
  · have hf := if_p c3 hf
    refine lv_iconst (v := 0) hx hb dX6_takesCondition_12 (by decide) ?_
    have h1 := Option.some.inj hf
    subst h1
    rw [hQ]
    exact W.zret (v := 0) (ty := .boolean) hx hb hr rfl (fun t ht hW => qEnd hP hS ht) hS.2.2 dX6_takesCondition_13
set_option maxRecDepth 100000 in
set_option maxHeartbeats 4000000 in
theorem c_X6_takesWay (l : Launch) (D : va_G) (B : Nat) (adK adV : Nat → Nat) (cC cF cI cZ cM cS : ClassId) (ma : Nat) (mst : Int32) (mwy : Int32) (mmk : Int32) (mwt : Int32) (m1 : Nat) (m2 : Nat) (m3 : Nat) (m4 : Nat) (mun : Int32) (m5 : Nat) (m6 : Nat) (mln : Int32) (mfi : Int32) (mbe : Int32) (mrs : Int32) (mrw : Int32) (mcl : Int32) (mdo : Int32) (mnu : Int32) (m7 : Nat) (m8 : Nat) (m9 : Nat) (m10 : Nat) (mvl : Nat → Int32) (mof : Nat → Int32) (mw : Nat → Int32) (mf : Nat → UInt32) (mik : Nat → Int32) (mtx : Nat → Int32) (mwd : Nat → Int32) (msz : Nat → Int32) (mso : Nat → Int32) (mpl : Nat → Int32) (zz : Int32 × (Nat → Int32) × Int32 × Int32 × Int32 × Int32) (hf : f_X6_takesWay mln mfi mbe mrs mrw mdo mnu mof mtx mwd = some zz) : Ct l yX6_takesWay wsX6_takesWay { frames := 6, cells := 0, slots := 0, locals := 132 } D B adK adV (tysX cC cF cI cZ cM cS) [.ref ma] [(ma, .inr (6, [.int mst, .int mwy, .int mmk, .int mwt, .ref m1, .ref m2, .ref m3, .ref m4, .int mun, .ref m5, .ref m6, .int mln, .int mfi, .int mbe, .int mrs, .int mrw, .int mcl, .int mdo, .int mnu, .ref m7, .ref m8, .ref m9, .ref m10])), (m1, .inl (cI, 24, .inl mvl)), (m2, .inl (cI, 96, .inl mof)), (m3, .inl (cI, 168, .inl mw)), (m4, .inl (cF, 288, .inr (.inr (.inl mf)))), (m5, .inl (cZ, 2, .inl mik)), (m6, .inl (cI, 200, .inl mtx)), (m7, .inl (cI, 56, .inl mwd)), (m8, .inl (cI, 3, .inl msz)), (m9, .inl (cI, 3, .inl mso)), (m10, .inl (cI, 24, .inl mpl))] [(ma, .inr (6, [.int mst, .int mwy, .int mmk, .int mwt, .ref m1, .ref m2, .ref m3, .ref m4, .int mun, .ref m5, .ref m6, .int mln, .int zz.2.2.1, .int zz.2.2.2.1, .int mrs, .int zz.2.2.2.2.1, .int mcl, .int mdo, .int zz.2.2.2.2.2, .ref m7, .ref m8, .ref m9, .ref m10])), (m1, .inl (cI, 24, .inl mvl)), (m2, .inl (cI, 96, .inl zz.2.1)), (m3, .inl (cI, 168, .inl mw)), (m4, .inl (cF, 288, .inr (.inr (.inl mf)))), (m5, .inl (cZ, 2, .inl mik)), (m6, .inl (cI, 200, .inl mtx)), (m7, .inl (cI, 56, .inl mwd)), (m8, .inl (cI, 3, .inl msz)), (m9, .inl (cI, 3, .inl mso)), (m10, .inl (cI, 24, .inl mpl))] (some (.int zz.1)) := by
  refine Ct.ofW (cc := cX6_takesWay) (maxL := 1) (ret := (some .boolean)) (by decide) rfl (Nat.le_of_ble_eq_true rfl) ?_
  intro p e s m args below meth c hx hb hr hml hts hown hlocks hnm hK hE A Q hQ hB H locs ls hP hD hS hl
  have hl : lv_has ls 1 [(0, .ref ma)] := hl
  have w0 : ∀ w ∈ u_ws RX6 TX6 23, w ∈ wsX6_takesWay := by decide +kernel
  have w1 := hts (.fieldLink RX6 82 "MotionStatesModel" "number" "I") (by decide +kernel)
  have w2 := hts (.fieldLink RX6 100 "MotionStatesModel" "readStates" "I") (by decide +kernel)
  have w3 := hts (.fieldLink RX6 103 "MotionStatesModel" "readWays" "I") (by decide +kernel)
  unfold f_X6_takesWay at hf
  refine lv_aload_n hx hb dX6_takesWay_0 rfl (lv_at hl 0 rfl) ?_
  obtain ⟨⟨r1, o2, o3, o4⟩, hc5, hf⟩ := bd_inv hf
  refine xcV (As := []) (rest := []) (ws' := [(ma, .inr (6, [.int mst, .int mwy, .int mmk, .int mwt, .ref m1, .ref m2, .ref m3, .ref m4, .int mun, .ref m5, .ref m6, .int mln, .int o2, .int o3, .int mrs, .int mrw, .int mcl, .int mdo, .int o4, .ref m7, .ref m8, .ref m9, .ref m10])), (m1, .inl (cI, 24, .inl mvl)), (m2, .inl (cI, 96, .inl mof)), (m3, .inl (cI, 168, .inl mw)), (m4, .inl (cF, 288, .inr (.inr (.inl mf)))), (m5, .inl (cZ, 2, .inl mik)), (m6, .inl (cI, 200, .inl mtx)), (m7, .inl (cI, 56, .inl mwd)), (m8, .inl (cI, 3, .inl msz)), (m9, .inl (cI, 3, .inl mso)), (m10, .inl (cI, 24, .inl mpl))]) ⟨hx, hb, hml, hown, hts⟩ (c_X6_takesFrom l D B adK adV cC cF cI cZ cM cS ma mst mwy mmk mwt m1 m2 m3 m4 mun m5 m6 mln mfi mbe mrs mrw mcl mdo mnu m7 m8 m9 m10 mvl mof mw mf mik mtx mwd msz mso mpl  (r1, o2, o3, o4) hc5) (cwV 0 hts gX6_takesWay_X6_takesFrom rfl rfl rfl (by decide +kernel) ⟨Nat.le_of_ble_eq_true rfl, Nat.le_of_ble_eq_true rfl⟩) (va_recv hK hP (ci := 6) (q0 := 0) rfl rfl) hK hP hD hS hB hE [0, 1, 2, 3, 4, 5, 6, 7, 8, 9, 10] rfl rfl rfl rfl rfl hl.1 rfl (Nat.le_of_ble_eq_true rfl) dX6_takesWay_1 ⟨Nat.le_of_ble_eq_true rfl, Nat.le_of_ble_eq_true rfl⟩ (fun H locs hP hD hS => ?_)
  refine W.eq (g2 := F0 m 4 ls [.int r1]) rfl ?_
  refine lv_if_ne (tgt := 9) hx hb dX6_takesWay_4 (by decide) (fun c6 => ?_) (fun c6 => ?_)
  · have hf := if_n c6 hf
    refine lv_aload_n hx hb dX6_takesWay_9 rfl (lv_at hl 0 rfl) ?_
    refine lv_iconst (v := 0) hx hb dX6_takesWay_10 (by decide) ?_
    refine lv_aload_n hx hb dX6_takesWay_11 rfl (lv_at hl 0 rfl) ?_
    refine va_get (D := D) (ci := 6) (v := .int o4) (C := RX6) (T := TX6) (N := 23) hx hb hts w0 hown hK hP 0 rfl rfl 18 (by decide) w1 (fun _ h9 => h9) rfl dX6_takesWay_12 ?_
    obtain ⟨o7, hc8, hf⟩ := bd_inv hf
    refine xcV (As := [.int 0, .int o4]) (rest := []) (ws' := [(ma, .inr (6, [.int mst, .int mwy, .int mmk, .int mwt, .ref m1, .ref m2, .ref m3, .ref m4, .int mun, .ref m5, .ref m6, .int mln, .int o2, .int o3, .int mrs, .int mrw, .int mcl, .int mdo, .int o4, .ref m7, .ref m8, .ref m9, .ref m10])), (m1, .inl (cI, 24, .inl mvl)), (m2, .inl (cI, 96, .inl o7)), (m3, .inl (cI, 168, .inl mw)), (m4, .inl (cF, 288, .inr (.inr (.inl mf)))), (m5, .inl (cZ, 2, .inl mik)), (m6, .inl (cI, 200, .inl mtx)), (m7, .inl (cI, 56, .inl mwd)), (m8, .inl (cI, 3, .inl msz)), (m9, .inl (cI, 3, .inl mso)), (m10, .inl (cI, 24, .inl mpl))]) ⟨hx, hb, hml, hown, hts⟩ (c_X6_keeps l D B adK adV cC cF cI cZ cM cS ma mst mwy mmk mwt m1 m2 m3 m4 mun m5 m6 mln o2 o3 mrs mrw mcl mdo o4 m7 m8 m9 m10 mvl mof mw mf mik mtx mwd msz mso mpl 0 o4  o7 hc8) (cwV 2 hts gX6_takesWay_X6_keeps rfl rfl rfl (by decide +kernel) ⟨Nat.le_of_ble_eq_true rfl, Nat.le_of_ble_eq_true rfl⟩) (va_recv hK hP (ci := 6) (q0 := 0) rfl rfl) hK hP hD hS hB hE [0, 1, 2, 3, 4, 5, 6, 7, 8, 9, 10] rfl rfl rfl rfl rfl hl.1 rfl (Nat.le_of_ble_eq_true rfl) dX6_takesWay_15 ⟨Nat.le_of_ble_eq_true rfl, Nat.le_of_ble_eq_true rfl⟩ (fun H locs hP hD hS => ?_)
    refine W.eq (g2 := F0 m 18 ls []) rfl ?_
    refine lv_aload_n hx hb dX6_takesWay_18 rfl (lv_at hl 0 rfl) ?_
    refine lv_iconst (v := 0) hx hb dX6_takesWay_19 (by decide) ?_
    refine lv_aload_n hx hb dX6_takesWay_20 rfl (lv_at hl 0 rfl) ?_
    refine va_get (D := D) (ci := 6) (v := .int mrs) (C := RX6) (T := TX6) (N := 23) hx hb hts w0 hown hK hP 0 rfl rfl 14 (by decide) w2 (fun _ h9 => h9) rfl dX6_takesWay_21 ?_
    refine lv_iconst (v := 1) hx hb dX6_takesWay_24 (by decide) ?_
    refine lv_isub hx hb dX6_takesWay_25 ?_
    obtain ⟨⟨r9, o10, o11, o12⟩, hc13, hf⟩ := bd_inv hf
    refine xcV (As := [.int 0, .int (mrs - 1)]) (rest := []) (ws' := [(ma, .inr (6, [.int mst, .int mwy, .int mmk, .int mwt, .ref m1, .ref m2, .ref m3, .ref m4, .int mun, .ref m5, .ref m6, .int mln, .int o10, .int o11, .int mrs, .int mrw, .int mcl, .int mdo, .int o12, .ref m7, .ref m8, .ref m9, .ref m10])), (m1, .inl (cI, 24, .inl mvl)), (m2, .inl (cI, 96, .inl o7)), (m3, .inl (cI, 168, .inl mw)), (m4, .inl (cF, 288, .inr (.inr (.inl mf)))), (m5, .inl (cZ, 2, .inl mik)), (m6, .inl (cI, 200, .inl mtx)), (m7, .inl (cI, 56, .inl mwd)), (m8, .inl (cI, 3, .inl msz)), (m9, .inl (cI, 3, .inl mso)), (m10, .inl (cI, 24, .inl mpl))]) ⟨hx, hb, hml, hown, hts⟩ (c_X6_takesNumber l D B adK adV cC cF cI cZ cM cS ma mst mwy mmk mwt m1 m2 m3 m4 mun m5 m6 mln o2 o3 mrs mrw mcl mdo o4 m7 m8 m9 m10 mvl o7 mw mf mik mtx mwd msz mso mpl 0 (mrs - 1)  (r9, o10, o11, o12) hc13) (cwV 2 hts gX6_takesWay_X6_takesNumber rfl rfl rfl (by decide +kernel) ⟨Nat.le_of_ble_eq_true rfl, Nat.le_of_ble_eq_true rfl⟩) (va_recv hK hP (ci := 6) (q0 := 0) rfl rfl) hK hP hD hS hB hE [0, 1, 2, 3, 4, 5, 6, 7, 8, 9, 10] rfl rfl rfl rfl rfl hl.1 rfl (Nat.le_of_ble_eq_true rfl) dX6_takesWay_26 ⟨Nat.le_of_ble_eq_true rfl, Nat.le_of_ble_eq_true rfl⟩ (fun H locs hP hD hS => ?_)
    refine W.eq (g2 := F0 m 29 ls [.int r9]) rfl ?_
    refine lv_if_ne (tgt := 34) hx hb dX6_takesWay_29 (by decide) (fun c14 => ?_) (fun c14 => ?_)
    · have hf := if_n c14 hf
      refine lv_aload_n hx hb dX6_takesWay_34 rfl (lv_at hl 0 rfl) ?_
      refine lv_iconst (v := 1) hx hb dX6_takesWay_35 (by decide) ?_
      refine lv_aload_n hx hb dX6_takesWay_36 rfl (lv_at hl 0 rfl) ?_
      refine va_get (D := D) (ci := 6) (v := .int o12) (C := RX6) (T := TX6) (N := 23) hx hb hts w0 hown hK hP 0 rfl rfl 18 (by decide) w1 (fun _ h9 => h9) rfl dX6_takesWay_37 ?_
      obtain ⟨o15, hc16, hf⟩ := bd_inv hf
      refine xcV (As := [.int 1, .int o12]) (rest := []) (ws' := [(ma, .inr (6, [.int mst, .int mwy, .int mmk, .int mwt, .ref m1, .ref m2, .ref m3, .ref m4, .int mun, .ref m5, .ref m6, .int mln, .int o10, .int o11, .int mrs, .int mrw, .int mcl, .int mdo, .int o12, .ref m7, .ref m8, .ref m9, .ref m10])), (m1, .inl (cI, 24, .inl mvl)), (m2, .inl (cI, 96, .inl o15)), (m3, .inl (cI, 168, .inl mw)), (m4, .inl (cF, 288, .inr (.inr (.inl mf)))), (m5, .inl (cZ, 2, .inl mik)), (m6, .inl (cI, 200, .inl mtx)), (m7, .inl (cI, 56, .inl mwd)), (m8, .inl (cI, 3, .inl msz)), (m9, .inl (cI, 3, .inl mso)), (m10, .inl (cI, 24, .inl mpl))]) ⟨hx, hb, hml, hown, hts⟩ (c_X6_keeps l D B adK adV cC cF cI cZ cM cS ma mst mwy mmk mwt m1 m2 m3 m4 mun m5 m6 mln o10 o11 mrs mrw mcl mdo o12 m7 m8 m9 m10 mvl o7 mw mf mik mtx mwd msz mso mpl 1 o12  o15 hc16) (cwV 2 hts gX6_takesWay_X6_keeps rfl rfl rfl (by decide +kernel) ⟨Nat.le_of_ble_eq_true rfl, Nat.le_of_ble_eq_true rfl⟩) (va_recv hK hP (ci := 6) (q0 := 0) rfl rfl) hK hP hD hS hB hE [0, 1, 2, 3, 4, 5, 6, 7, 8, 9, 10] rfl rfl rfl rfl rfl hl.1 rfl (Nat.le_of_ble_eq_true rfl) dX6_takesWay_40 ⟨Nat.le_of_ble_eq_true rfl, Nat.le_of_ble_eq_true rfl⟩ (fun H locs hP hD hS => ?_)
      refine W.eq (g2 := F0 m 43 ls []) rfl ?_
      refine lv_aload_n hx hb dX6_takesWay_43 rfl (lv_at hl 0 rfl) ?_
      obtain ⟨⟨r17, o18, o19, o20⟩, hc21, hf⟩ := bd_inv hf
      refine xcV (As := []) (rest := []) (ws' := [(ma, .inr (6, [.int mst, .int mwy, .int mmk, .int mwt, .ref m1, .ref m2, .ref m3, .ref m4, .int mun, .ref m5, .ref m6, .int mln, .int o18, .int o19, .int mrs, .int mrw, .int mcl, .int mdo, .int o20, .ref m7, .ref m8, .ref m9, .ref m10])), (m1, .inl (cI, 24, .inl mvl)), (m2, .inl (cI, 96, .inl o15)), (m3, .inl (cI, 168, .inl mw)), (m4, .inl (cF, 288, .inr (.inr (.inl mf)))), (m5, .inl (cZ, 2, .inl mik)), (m6, .inl (cI, 200, .inl mtx)), (m7, .inl (cI, 56, .inl mwd)), (m8, .inl (cI, 3, .inl msz)), (m9, .inl (cI, 3, .inl mso)), (m10, .inl (cI, 24, .inl mpl))]) ⟨hx, hb, hml, hown, hts⟩ (c_X6_takesFrames l D B adK adV cC cF cI cZ cM cS ma mst mwy mmk mwt m1 m2 m3 m4 mun m5 m6 mln o10 o11 mrs mrw mcl mdo o12 m7 m8 m9 m10 mvl o15 mw mf mik mtx mwd msz mso mpl  (r17, o18, o19, o20) hc21) (cwV 0 hts gX6_takesWay_X6_takesFrames rfl rfl rfl (by decide +kernel) ⟨Nat.le_of_ble_eq_true rfl, Nat.le_of_ble_eq_true rfl⟩) (va_recv hK hP (ci := 6) (q0 := 0) rfl rfl) hK hP hD hS hB hE [0, 1, 2, 3, 4, 5, 6, 7, 8, 9, 10] rfl rfl rfl rfl rfl hl.1 rfl (Nat.le_of_ble_eq_true rfl) dX6_takesWay_44 ⟨Nat.le_of_ble_eq_true rfl, Nat.le_of_ble_eq_true rfl⟩ (fun H locs hP hD hS => ?_)
      refine W.eq (g2 := F0 m 47 ls [.int r17]) rfl ?_
      refine lv_if_ne (tgt := 52) hx hb dX6_takesWay_47 (by decide) (fun c22 => ?_) (fun c22 => ?_)
      · have hf := if_n c22 hf
        refine lv_aload_n hx hb dX6_takesWay_52 rfl (lv_at hl 0 rfl) ?_
        refine lv_iconst (v := 2) hx hb dX6_takesWay_53 (by decide) ?_
        refine lv_aload_n hx hb dX6_takesWay_54 rfl (lv_at hl 0 rfl) ?_
        refine va_get (D := D) (ci := 6) (v := .int o20) (C := RX6) (T := TX6) (N := 23) hx hb hts w0 hown hK hP 0 rfl rfl 18 (by decide) w1 (fun _ h9 => h9) rfl dX6_takesWay_55 ?_
        obtain ⟨o23, hc24, hf⟩ := bd_inv hf
        refine xcV (As := [.int 2, .int o20]) (rest := []) (ws' := [(ma, .inr (6, [.int mst, .int mwy, .int mmk, .int mwt, .ref m1, .ref m2, .ref m3, .ref m4, .int mun, .ref m5, .ref m6, .int mln, .int o18, .int o19, .int mrs, .int mrw, .int mcl, .int mdo, .int o20, .ref m7, .ref m8, .ref m9, .ref m10])), (m1, .inl (cI, 24, .inl mvl)), (m2, .inl (cI, 96, .inl o23)), (m3, .inl (cI, 168, .inl mw)), (m4, .inl (cF, 288, .inr (.inr (.inl mf)))), (m5, .inl (cZ, 2, .inl mik)), (m6, .inl (cI, 200, .inl mtx)), (m7, .inl (cI, 56, .inl mwd)), (m8, .inl (cI, 3, .inl msz)), (m9, .inl (cI, 3, .inl mso)), (m10, .inl (cI, 24, .inl mpl))]) ⟨hx, hb, hml, hown, hts⟩ (c_X6_keeps l D B adK adV cC cF cI cZ cM cS ma mst mwy mmk mwt m1 m2 m3 m4 mun m5 m6 mln o18 o19 mrs mrw mcl mdo o20 m7 m8 m9 m10 mvl o15 mw mf mik mtx mwd msz mso mpl 2 o20  o23 hc24) (cwV 2 hts gX6_takesWay_X6_keeps rfl rfl rfl (by decide +kernel) ⟨Nat.le_of_ble_eq_true rfl, Nat.le_of_ble_eq_true rfl⟩) (va_recv hK hP (ci := 6) (q0 := 0) rfl rfl) hK hP hD hS hB hE [0, 1, 2, 3, 4, 5, 6, 7, 8, 9, 10] rfl rfl rfl rfl rfl hl.1 rfl (Nat.le_of_ble_eq_true rfl) dX6_takesWay_58 ⟨Nat.le_of_ble_eq_true rfl, Nat.le_of_ble_eq_true rfl⟩ (fun H locs hP hD hS => ?_)
        refine W.eq (g2 := F0 m 61 ls []) rfl ?_
        refine lv_aload_n hx hb dX6_takesWay_61 rfl (lv_at hl 0 rfl) ?_
        refine lv_iconst (v := 3) hx hb dX6_takesWay_62 (by decide) ?_
        refine lv_iconst (v := 0) hx hb dX6_takesWay_63 (by decide) ?_
        obtain ⟨o25, hc26, hf⟩ := bd_inv hf
        refine xcV (As := [.int 3, .int 0]) (rest := []) (ws' := [(ma, .inr (6, [.int mst, .int mwy, .int mmk, .int mwt, .ref m1, .ref m2, .ref m3, .ref m4, .int mun, .ref m5, .ref m6, .int mln, .int o18, .int o19, .int mrs, .int mrw, .int mcl, .int mdo, .int o20, .ref m7, .ref m8, .ref m9, .ref m10])), (m1, .inl (cI, 24, .inl mvl)), (m2, .inl (cI, 96, .inl o25)), (m3, .inl (cI, 168, .inl mw)), (m4, .inl (cF, 288, .inr (.inr (.inl mf)))), (m5, .inl (cZ, 2, .inl mik)), (m6, .inl (cI, 200, .inl mtx)), (m7, .inl (cI, 56, .inl mwd)), (m8, .inl (cI, 3, .inl msz)), (m9, .inl (cI, 3, .inl mso)), (m10, .inl (cI, 24, .inl mpl))]) ⟨hx, hb, hml, hown, hts⟩ (c_X6_keeps l D B adK adV cC cF cI cZ cM cS ma mst mwy mmk mwt m1 m2 m3 m4 mun m5 m6 mln o18 o19 mrs mrw mcl mdo o20 m7 m8 m9 m10 mvl o23 mw mf mik mtx mwd msz mso mpl 3 0  o25 hc26) (cwV 2 hts gX6_takesWay_X6_keeps rfl rfl rfl (by decide +kernel) ⟨Nat.le_of_ble_eq_true rfl, Nat.le_of_ble_eq_true rfl⟩) (va_recv hK hP (ci := 6) (q0 := 0) rfl rfl) hK hP hD hS hB hE [0, 1, 2, 3, 4, 5, 6, 7, 8, 9, 10] rfl rfl rfl rfl rfl hl.1 rfl (Nat.le_of_ble_eq_true rfl) dX6_takesWay_64 ⟨Nat.le_of_ble_eq_true rfl, Nat.le_of_ble_eq_true rfl⟩ (fun H locs hP hD hS => ?_)
        refine W.eq (g2 := F0 m 67 ls []) rfl ?_
        refine lv_aload_n hx hb dX6_takesWay_67 rfl (lv_at hl 0 rfl) ?_
        obtain ⟨⟨r27, o28, o29, o30, o31⟩, hc32, hf⟩ := bd_inv hf
        refine xcV (As := []) (rest := []) (ws' := [(ma, .inr (6, [.int mst, .int mwy, .int mmk, .int mwt, .ref m1, .ref m2, .ref m3, .ref m4, .int mun, .ref m5, .ref m6, .int mln, .int o29, .int o30, .int mrs, .int mrw, .int mcl, .int mdo, .int o31, .ref m7, .ref m8, .ref m9, .ref m10])), (m1, .inl (cI, 24, .inl mvl)), (m2, .inl (cI, 96, .inl o28)), (m3, .inl (cI, 168, .inl mw)), (m4, .inl (cF, 288, .inr (.inr (.inl mf)))), (m5, .inl (cZ, 2, .inl mik)), (m6, .inl (cI, 200, .inl mtx)), (m7, .inl (cI, 56, .inl mwd)), (m8, .inl (cI, 3, .inl msz)), (m9, .inl (cI, 3, .inl mso)), (m10, .inl (cI, 24, .inl mpl))]) ⟨hx, hb, hml, hown, hts⟩ (c_X6_takesCondition l D B adK adV cC cF cI cZ cM cS ma mst mwy mmk mwt m1 m2 m3 m4 mun m5 m6 mln o18 o19 mrs mrw mcl mdo o20 m7 m8 m9 m10 mvl o25 mw mf mik mtx mwd msz mso mpl  (r27, o28, o29, o30, o31) hc32) (cwV 0 hts gX6_takesWay_X6_takesCondition rfl rfl rfl (by decide +kernel) ⟨Nat.le_of_ble_eq_true rfl, Nat.le_of_ble_eq_true rfl⟩) (va_recv hK hP (ci := 6) (q0 := 0) rfl rfl) hK hP hD hS hB hE [0, 1, 2, 3, 4, 5, 6, 7, 8, 9, 10] rfl rfl rfl rfl rfl hl.1 rfl (Nat.le_of_ble_eq_true rfl) dX6_takesWay_68 ⟨Nat.le_of_ble_eq_true rfl, Nat.le_of_ble_eq_true rfl⟩ (fun H locs hP hD hS => ?_)
        refine W.eq (g2 := F0 m 71 ls [.int r27]) rfl ?_
        refine lv_if_ne (tgt := 76) hx hb dX6_takesWay_71 (by decide) (fun c33 => ?_) (fun c33 => ?_)
        · have hf := if_n c33 hf
          refine lv_aload_n hx hb dX6_takesWay_76 rfl (lv_at hl 0 rfl) ?_
          refine lv_dup hx hb dX6_takesWay_77 rfl ?_
          refine va_get (D := D) (ci := 6) (v := .int mrw) (C := RX6) (T := TX6) (N := 23) hx hb hts w0 hown hK hP 0 rfl rfl 15 (by decide) w3 (fun _ h9 => h9) rfl dX6_takesWay_78 ?_
          refine lv_iconst (v := 1) hx hb dX6_takesWay_81 (by decide) ?_
          refine lv_iadd hx hb dX6_takesWay_82 ?_
          refine va_put (D := D) (ci := 6) (v := .int (mrw + 1)) (ty := .int) (C := RX6) (T := TX6) (N := 23) hx hb hts w0 tyX6 tyX6_ok nmX6 hown hK hP hD hS 0 rfl rfl 15 (by decide) w3 (fun _ h9 => h9) rfl (by decide +kernel) rfl rfl (Nat.le_of_ble_eq_true rfl) dX6_takesWay_83 (fun H locs hP hD hS => ?_)
          have hP : va_P D vwCl [(ma, .inr (6, [.int mst, .int mwy, .int mmk, .int mwt, .ref m1, .ref m2, .ref m3, .ref m4, .int mun, .ref m5, .ref m6, .int mln, .int o29, .int o30, .int mrs, .int (mrw + 1), .int mcl, .int mdo, .int o31, .ref m7, .ref m8, .ref m9, .ref m10])), (m1, .inl (cI, 24, .inl mvl)), (m2, .inl (cI, 96, .inl o28)), (m3, .inl (cI, 168, .inl mw)), (m4, .inl (cF, 288, .inr (.inr (.inl mf)))), (m5, .inl (cZ, 2, .inl mik)), (m6, .inl (cI, 200, .inl mtx)), (m7, .inl (cI, 56, .inl mwd)), (m8, .inl (cI, 3, .inl msz)), (m9, .inl (cI, 3, .inl mso)), (m10, .inl (cI, 24, .inl mpl))] H := hP
          have hD : va_D A [(ma, .inr (6, [.int mst, .int mwy, .int mmk, .int mwt, .ref m1, .ref m2, .ref m3, .ref m4, .int mun, .ref m5, .ref m6, .int mln, .int o29, .int o30, .int mrs, .int (mrw + 1), .int mcl, .int mdo, .int o31, .ref m7, .ref m8, .ref m9, .ref m10])), (m1, .inl (cI, 24, .inl mvl)), (m2, .inl (cI, 96, .inl o28)), (m3, .inl (cI, 168, .inl mw)), (m4, .inl (cF, 288, .inr (.inr (.inl mf)))), (m5, .inl (cZ, 2, .inl mik)), (m6, .inl (cI, 200, .inl mtx)), (m7, .inl (cI, 56, .inl mwd)), (m8, .inl (cI, 3, .inl msz)), (m9, .inl (cI, 3, .inl mso)), (m10, .inl (cI, 24, .inl mpl))] := hD
          refine lv_iconst (v := 1) hx hb dX6_takesWay_86 (by decide) ?_
          have h1 := Option.some.inj hf
          subst h1
          rw [hQ]
          exact W.zret (v := 1) (ty := .boolean) hx hb hr rfl (fun t ht hW => qEnd hP hS ht) hS.2.2 dX6_takesWay_87
        · have hf := if_p c33 hf
          refine lv_iconst (v := 0) hx hb dX6_takesWay_74 (by decide) ?_
          have h1 := Option.some.inj hf
          subst h1
          rw [hQ]
          exact W.zret (v := 0) (ty := .boolean) hx hb hr rfl (fun t ht hW => qEnd hP hS ht) hS.2.2 dX6_takesWay_75
      · have hf := if_p c22 hf
        refine lv_iconst (v := 0) hx hb dX6_takesWay_50 (by decide) ?_
        have h1 := Option.some.inj hf
        subst h1
        rw [hQ]
        exact W.zret (v := 0) (ty := .boolean) hx hb hr rfl (fun t ht hW => qEnd hP hS ht) hS.2.2 dX6_takesWay_51
    · have hf := if_p c14 hf
      refine lv_iconst (v := 0) hx hb dX6_takesWay_32 (by decide) ?_
      have h1 := Option.some.inj hf
      subst h1
      rw [hQ]
      exact W.zret (v := 0) (ty := .boolean) hx hb hr rfl (fun t ht hW => qEnd hP hS ht) hS.2.2 dX6_takesWay_33
  · have hf := if_p c6 hf
    refine lv_iconst (v := 0) hx hb dX6_takesWay_7 (by decide) ?_
    have h1 := Option.some.inj hf
    subst h1
    rw [hQ]
    exact W.zret (v := 0) (ty := .boolean) hx hb hr rfl (fun t ht hW => qEnd hP hS ht) hS.2.2 dX6_takesWay_8
set_option maxRecDepth 100000 in
set_option maxHeartbeats 4000000 in
theorem c_X6_takesMask (l : Launch) (D : va_G) (B : Nat) (adK adV : Nat → Nat) (cC cF cI cZ cM cS : ClassId) (ma : Nat) (mst : Int32) (mwy : Int32) (mmk : Int32) (mwt : Int32) (m1 : Nat) (m2 : Nat) (m3 : Nat) (m4 : Nat) (mun : Int32) (m5 : Nat) (m6 : Nat) (mln : Int32) (mfi : Int32) (mbe : Int32) (mrs : Int32) (mrw : Int32) (mcl : Int32) (mdo : Int32) (mnu : Int32) (m7 : Nat) (m8 : Nat) (m9 : Nat) (m10 : Nat) (mvl : Nat → Int32) (mof : Nat → Int32) (mw : Nat → Int32) (mf : Nat → UInt32) (mik : Nat → Int32) (mtx : Nat → Int32) (mwd : Nat → Int32) (msz : Nat → Int32) (mso : Nat → Int32) (mpl : Nat → Int32) (zz : Int32 × Int32 × Int32 × Int32 × Int32 × Int32) (hf : f_X6_takesMask mmk mwt mln mfi mbe mdo mnu mtx = some zz) : Ct l yX6_takesMask wsX6_takesMask { frames := 4, cells := 0, slots := 0, locals := 89 } D B adK adV (tysX cC cF cI cZ cM cS) [.ref ma] [(ma, .inr (6, [.int mst, .int mwy, .int mmk, .int mwt, .ref m1, .ref m2, .ref m3, .ref m4, .int mun, .ref m5, .ref m6, .int mln, .int mfi, .int mbe, .int mrs, .int mrw, .int mcl, .int mdo, .int mnu, .ref m7, .ref m8, .ref m9, .ref m10])), (m1, .inl (cI, 24, .inl mvl)), (m2, .inl (cI, 96, .inl mof)), (m3, .inl (cI, 168, .inl mw)), (m4, .inl (cF, 288, .inr (.inr (.inl mf)))), (m5, .inl (cZ, 2, .inl mik)), (m6, .inl (cI, 200, .inl mtx)), (m7, .inl (cI, 56, .inl mwd)), (m8, .inl (cI, 3, .inl msz)), (m9, .inl (cI, 3, .inl mso)), (m10, .inl (cI, 24, .inl mpl))] [(ma, .inr (6, [.int mst, .int mwy, .int zz.2.1, .int zz.2.2.1, .ref m1, .ref m2, .ref m3, .ref m4, .int mun, .ref m5, .ref m6, .int mln, .int zz.2.2.2.1, .int zz.2.2.2.2.1, .int mrs, .int mrw, .int mcl, .int mdo, .int zz.2.2.2.2.2, .ref m7, .ref m8, .ref m9, .ref m10])), (m1, .inl (cI, 24, .inl mvl)), (m2, .inl (cI, 96, .inl mof)), (m3, .inl (cI, 168, .inl mw)), (m4, .inl (cF, 288, .inr (.inr (.inl mf)))), (m5, .inl (cZ, 2, .inl mik)), (m6, .inl (cI, 200, .inl mtx)), (m7, .inl (cI, 56, .inl mwd)), (m8, .inl (cI, 3, .inl msz)), (m9, .inl (cI, 3, .inl mso)), (m10, .inl (cI, 24, .inl mpl))] (some (.int zz.1)) := by
  refine Ct.ofW (cc := cX6_takesMask) (maxL := 2) (ret := (some .boolean)) (by decide) rfl (Nat.le_of_ble_eq_true rfl) ?_
  intro p e s m args below meth c hx hb hr hml hts hown hlocks hnm hK hE A Q hQ hB H locs ls hP hD hS hl
  have hl : lv_has ls 2 [(0, .ref ma)] := hl
  have w0 : ∀ w ∈ u_ws RX6 TX6 23, w ∈ wsX6_takesMask := by decide +kernel
  have w1 := hts (.fieldLink RX6 82 "MotionStatesModel" "number" "I") (by decide +kernel)
  have w2 := hts (.fieldLink RX6 96 "MotionStatesModel" "doing" "Z") (by decide +kernel)
  have w3 := hts (.fieldLink RX6 126 "MotionStatesModel" "mask" "I") (by decide +kernel)
  have w4 := hts (.fieldLink RX6 7 "MotionStatesModel" "weight" "I") (by decide +kernel)
  unfold f_X6_takesMask at hf
  refine lv_aload_n hx hb dX6_takesMask_0 rfl (lv_at hl 0 rfl) ?_
  refine lv_iconst (v := 0) hx hb dX6_takesMask_1 (by decide) ?_
  refine lv_bipush (v := 15) hx hb dX6_takesMask_2 (by decide) ?_
  obtain ⟨⟨r1, o2, o3, o4⟩, hc5, hf⟩ := bd_inv hf
  refine xcV (As := [.int 0, .int 15]) (rest := []) (ws' := [(ma, .inr (6, [.int mst, .int mwy, .int mmk, .int mwt, .ref m1, .ref m2, .ref m3, .ref m4, .int mun, .ref m5, .ref m6, .int mln, .int o2, .int o3, .int mrs, .int mrw, .int mcl, .int mdo, .int o4, .ref m7, .ref m8, .ref m9, .ref m10])), (m1, .inl (cI, 24, .inl mvl)), (m2, .inl (cI, 96, .inl mof)), (m3, .inl (cI, 168, .inl mw)), (m4, .inl (cF, 288, .inr (.inr (.inl mf)))), (m5, .inl (cZ, 2, .inl mik)), (m6, .inl (cI, 200, .inl mtx)), (m7, .inl (cI, 56, .inl mwd)), (m8, .inl (cI, 3, .inl msz)), (m9, .inl (cI, 3, .inl mso)), (m10, .inl (cI, 24, .inl mpl))]) ⟨hx, hb, hml, hown, hts⟩ (c_X6_takesNumber l D B adK adV cC cF cI cZ cM cS ma mst mwy mmk mwt m1 m2 m3 m4 mun m5 m6 mln mfi mbe mrs mrw mcl mdo mnu m7 m8 m9 m10 mvl mof mw mf mik mtx mwd msz mso mpl 0 15  (r1, o2, o3, o4) hc5) (cwV 2 hts gX6_takesMask_X6_takesNumber rfl rfl rfl (by decide +kernel) ⟨Nat.le_of_ble_eq_true rfl, Nat.le_of_ble_eq_true rfl⟩) (va_recv hK hP (ci := 6) (q0 := 0) rfl rfl) hK hP hD hS hB hE [0, 1, 2, 3, 4, 5, 6, 7, 8, 9, 10] rfl rfl rfl rfl rfl hl.1 rfl (Nat.le_of_ble_eq_true rfl) dX6_takesMask_4 ⟨Nat.le_of_ble_eq_true rfl, Nat.le_of_ble_eq_true rfl⟩ (fun H locs hP hD hS => ?_)
  refine W.eq (g2 := F0 m 7 ls [.int r1]) rfl ?_
  refine lv_if_ne (tgt := 12) hx hb dX6_takesMask_7 (by decide) (fun c6 => ?_) (fun c6 => ?_)
  · have hf := if_n c6 hf
    refine lv_aload_n hx hb dX6_takesMask_12 rfl (lv_at hl 0 rfl) ?_
    refine va_get (D := D) (ci := 6) (v := .int o4) (C := RX6) (T := TX6) (N := 23) hx hb hts w0 hown hK hP 0 rfl rfl 18 (by decide) w1 (fun _ h9 => h9) rfl dX6_takesMask_13 ?_
    refine lv_istore_n (lv' := [(1, .int o4), (0, .ref ma)]) hx hb dX6_takesMask_16 rfl hl (by decide) rfl (fun ls hl => ?_)
    refine lv_aload_n hx hb dX6_takesMask_17 rfl (lv_at hl 1 rfl) ?_
    refine lv_iconst (v := 0) hx hb dX6_takesMask_18 (by decide) ?_
    refine lv_bipush (v := 16) hx hb dX6_takesMask_19 (by decide) ?_
    obtain ⟨⟨r7, o8, o9, o10⟩, hc11, hf⟩ := bd_inv hf
    refine xcV (As := [.int 0, .int 16]) (rest := []) (ws' := [(ma, .inr (6, [.int mst, .int mwy, .int mmk, .int mwt, .ref m1, .ref m2, .ref m3, .ref m4, .int mun, .ref m5, .ref m6, .int mln, .int o8, .int o9, .int mrs, .int mrw, .int mcl, .int mdo, .int o10, .ref m7, .ref m8, .ref m9, .ref m10])), (m1, .inl (cI, 24, .inl mvl)), (m2, .inl (cI, 96, .inl mof)), (m3, .inl (cI, 168, .inl mw)), (m4, .inl (cF, 288, .inr (.inr (.inl mf)))), (m5, .inl (cZ, 2, .inl mik)), (m6, .inl (cI, 200, .inl mtx)), (m7, .inl (cI, 56, .inl mwd)), (m8, .inl (cI, 3, .inl msz)), (m9, .inl (cI, 3, .inl mso)), (m10, .inl (cI, 24, .inl mpl))]) ⟨hx, hb, hml, hown, hts⟩ (c_X6_takesNumber l D B adK adV cC cF cI cZ cM cS ma mst mwy mmk mwt m1 m2 m3 m4 mun m5 m6 mln o2 o3 mrs mrw mcl mdo o4 m7 m8 m9 m10 mvl mof mw mf mik mtx mwd msz mso mpl 0 16  (r7, o8, o9, o10) hc11) (cwV 2 hts gX6_takesMask_X6_takesNumber rfl rfl rfl (by decide +kernel) ⟨Nat.le_of_ble_eq_true rfl, Nat.le_of_ble_eq_true rfl⟩) (va_recv hK hP (ci := 6) (q0 := 0) rfl rfl) hK hP hD hS hB hE [0, 1, 2, 3, 4, 5, 6, 7, 8, 9, 10] rfl rfl rfl rfl rfl hl.1 rfl (Nat.le_of_ble_eq_true rfl) dX6_takesMask_21 ⟨Nat.le_of_ble_eq_true rfl, Nat.le_of_ble_eq_true rfl⟩ (fun H locs hP hD hS => ?_)
    refine W.eq (g2 := F0 m 24 ls [.int r7]) rfl ?_
    refine lv_if_ne (tgt := 29) hx hb dX6_takesMask_24 (by decide) (fun c12 => ?_) (fun c12 => ?_)
    · have hf := if_n c12 hf
      refine lv_aload_n hx hb dX6_takesMask_29 rfl (lv_at hl 1 rfl) ?_
      refine va_get (D := D) (ci := 6) (v := .int mdo) (C := RX6) (T := TX6) (N := 23) hx hb hts w0 hown hK hP 0 rfl rfl 17 (by decide) w2 (fun _ h9 => h9) rfl dX6_takesMask_30 ?_
      refine lv_if_eq (tgt := 49) hx hb dX6_takesMask_33 (by decide) (fun c13 => ?_) (fun c13 => ?_)
      · have hf := if_p c13 hf
        refine lv_iconst (v := 1) hx hb dX6_takesMask_49 (by decide) ?_
        have h1 := Option.some.inj hf
        subst h1
        rw [hQ]
        exact W.zret (v := 1) (ty := .boolean) hx hb hr rfl (fun t ht hW => qEnd hP hS ht) hS.2.2 dX6_takesMask_50
      · have hf := if_n c13 hf
        refine lv_aload_n hx hb dX6_takesMask_36 rfl (lv_at hl 1 rfl) ?_
        refine lv_iload_n hx hb dX6_takesMask_37 rfl (lv_at hl 0 rfl) ?_
        refine va_put (D := D) (ci := 6) (v := .int o4) (ty := .int) (C := RX6) (T := TX6) (N := 23) hx hb hts w0 tyX6 tyX6_ok nmX6 hown hK hP hD hS 0 rfl rfl 2 (by decide) w3 (fun _ h9 => h9) rfl (by decide +kernel) rfl rfl (Nat.le_of_ble_eq_true rfl) dX6_takesMask_38 (fun H locs hP hD hS => ?_)
        have hP : va_P D vwCl [(ma, .inr (6, [.int mst, .int mwy, .int o4, .int mwt, .ref m1, .ref m2, .ref m3, .ref m4, .int mun, .ref m5, .ref m6, .int mln, .int o8, .int o9, .int mrs, .int mrw, .int mcl, .int mdo, .int o10, .ref m7, .ref m8, .ref m9, .ref m10])), (m1, .inl (cI, 24, .inl mvl)), (m2, .inl (cI, 96, .inl mof)), (m3, .inl (cI, 168, .inl mw)), (m4, .inl (cF, 288, .inr (.inr (.inl mf)))), (m5, .inl (cZ, 2, .inl mik)), (m6, .inl (cI, 200, .inl mtx)), (m7, .inl (cI, 56, .inl mwd)), (m8, .inl (cI, 3, .inl msz)), (m9, .inl (cI, 3, .inl mso)), (m10, .inl (cI, 24, .inl mpl))] H := hP
        have hD : va_D A [(ma, .inr (6, [.int mst, .int mwy, .int o4, .int mwt, .ref m1, .ref m2, .ref m3, .ref m4, .int mun, .ref m5, .ref m6, .int mln, .int o8, .int o9, .int mrs, .int mrw, .int mcl, .int mdo, .int o10, .ref m7, .ref m8, .ref m9, .ref m10])), (m1, .inl (cI, 24, .inl mvl)), (m2, .inl (cI, 96, .inl mof)), (m3, .inl (cI, 168, .inl mw)), (m4, .inl (cF, 288, .inr (.inr (.inl mf)))), (m5, .inl (cZ, 2, .inl mik)), (m6, .inl (cI, 200, .inl mtx)), (m7, .inl (cI, 56, .inl mwd)), (m8, .inl (cI, 3, .inl msz)), (m9, .inl (cI, 3, .inl mso)), (m10, .inl (cI, 24, .inl mpl))] := hD
        refine lv_aload_n hx hb dX6_takesMask_41 rfl (lv_at hl 1 rfl) ?_
        refine lv_aload_n hx hb dX6_takesMask_42 rfl (lv_at hl 1 rfl) ?_
        refine va_get (D := D) (ci := 6) (v := .int o10) (C := RX6) (T := TX6) (N := 23) hx hb hts w0 hown hK hP 0 rfl rfl 18 (by decide) w1 (fun _ h9 => h9) rfl dX6_takesMask_43 ?_
        refine va_put (D := D) (ci := 6) (v := .int o10) (ty := .int) (C := RX6) (T := TX6) (N := 23) hx hb hts w0 tyX6 tyX6_ok nmX6 hown hK hP hD hS 0 rfl rfl 3 (by decide) w4 (fun _ h9 => h9) rfl (by decide +kernel) rfl rfl (Nat.le_of_ble_eq_true rfl) dX6_takesMask_46 (fun H locs hP hD hS => ?_)
        have hP : va_P D vwCl [(ma, .inr (6, [.int mst, .int mwy, .int o4, .int o10, .ref m1, .ref m2, .ref m3, .ref m4, .int mun, .ref m5, .ref m6, .int mln, .int o8, .int o9, .int mrs, .int mrw, .int mcl, .int mdo, .int o10, .ref m7, .ref m8, .ref m9, .ref m10])), (m1, .inl (cI, 24, .inl mvl)), (m2, .inl (cI, 96, .inl mof)), (m3, .inl (cI, 168, .inl mw)), (m4, .inl (cF, 288, .inr (.inr (.inl mf)))), (m5, .inl (cZ, 2, .inl mik)), (m6, .inl (cI, 200, .inl mtx)), (m7, .inl (cI, 56, .inl mwd)), (m8, .inl (cI, 3, .inl msz)), (m9, .inl (cI, 3, .inl mso)), (m10, .inl (cI, 24, .inl mpl))] H := hP
        have hD : va_D A [(ma, .inr (6, [.int mst, .int mwy, .int o4, .int o10, .ref m1, .ref m2, .ref m3, .ref m4, .int mun, .ref m5, .ref m6, .int mln, .int o8, .int o9, .int mrs, .int mrw, .int mcl, .int mdo, .int o10, .ref m7, .ref m8, .ref m9, .ref m10])), (m1, .inl (cI, 24, .inl mvl)), (m2, .inl (cI, 96, .inl mof)), (m3, .inl (cI, 168, .inl mw)), (m4, .inl (cF, 288, .inr (.inr (.inl mf)))), (m5, .inl (cZ, 2, .inl mik)), (m6, .inl (cI, 200, .inl mtx)), (m7, .inl (cI, 56, .inl mwd)), (m8, .inl (cI, 3, .inl msz)), (m9, .inl (cI, 3, .inl mso)), (m10, .inl (cI, 24, .inl mpl))] := hD
        refine lv_iconst (v := 1) hx hb dX6_takesMask_49 (by decide) ?_
        have h1 := Option.some.inj hf
        subst h1
        rw [hQ]
        exact W.zret (v := 1) (ty := .boolean) hx hb hr rfl (fun t ht hW => qEnd hP hS ht) hS.2.2 dX6_takesMask_50
    · have hf := if_p c12 hf
      refine lv_iconst (v := 0) hx hb dX6_takesMask_27 (by decide) ?_
      have h1 := Option.some.inj hf
      subst h1
      rw [hQ]
      exact W.zret (v := 0) (ty := .boolean) hx hb hr rfl (fun t ht hW => qEnd hP hS ht) hS.2.2 dX6_takesMask_28
  · have hf := if_p c6 hf
    refine lv_iconst (v := 0) hx hb dX6_takesMask_10 (by decide) ?_
    have h1 := Option.some.inj hf
    subst h1
    rw [hQ]
    exact W.zret (v := 0) (ty := .boolean) hx hb hr rfl (fun t ht hW => qEnd hP hS ht) hS.2.2 dX6_takesMask_11
set_option maxRecDepth 100000 in
set_option maxHeartbeats 4000000 in
theorem c_X6_clears (l : Launch) (D : va_G) (B : Nat) (adK adV : Nat → Nat) (cC cF cI cZ cM cS : ClassId) (ma : Nat) (mst : Int32) (mwy : Int32) (mmk : Int32) (mwt : Int32) (m1 : Nat) (m2 : Nat) (m3 : Nat) (m4 : Nat) (mun : Int32) (m5 : Nat) (m6 : Nat) (mln : Int32) (mfi : Int32) (mbe : Int32) (mrs : Int32) (mrw : Int32) (mcl : Int32) (mdo : Int32) (mnu : Int32) (m7 : Nat) (m8 : Nat) (m9 : Nat) (m10 : Nat) (mvl : Nat → Int32) (mof : Nat → Int32) (mw : Nat → Int32) (mf : Nat → UInt32) (mik : Nat → Int32) (mtx : Nat → Int32) (mwd : Nat → Int32) (msz : Nat → Int32) (mso : Nat → Int32) (mpl : Nat → Int32) (zz : Int32 × Int32 × Int32 × Int32) (hf : f_X6_clears mmk mwt mdo = some zz) : Ct l yX6_clears wsX6_clears { frames := 0, cells := 0, slots := 0, locals := 0 } D B adK adV (tysX cC cF cI cZ cM cS) [.ref ma] [(ma, .inr (6, [.int mst, .int mwy, .int mmk, .int mwt, .ref m1, .ref m2, .ref m3, .ref m4, .int mun, .ref m5, .ref m6, .int mln, .int mfi, .int mbe, .int mrs, .int mrw, .int mcl, .int mdo, .int mnu, .ref m7, .ref m8, .ref m9, .ref m10])), (m1, .inl (cI, 24, .inl mvl)), (m2, .inl (cI, 96, .inl mof)), (m3, .inl (cI, 168, .inl mw)), (m4, .inl (cF, 288, .inr (.inr (.inl mf)))), (m5, .inl (cZ, 2, .inl mik)), (m6, .inl (cI, 200, .inl mtx)), (m7, .inl (cI, 56, .inl mwd)), (m8, .inl (cI, 3, .inl msz)), (m9, .inl (cI, 3, .inl mso)), (m10, .inl (cI, 24, .inl mpl))] [(ma, .inr (6, [.int mst, .int mwy, .int zz.1, .int zz.2.1, .ref m1, .ref m2, .ref m3, .ref m4, .int mun, .ref m5, .ref m6, .int mln, .int mfi, .int mbe, .int zz.2.2.1, .int zz.2.2.2, .int mcl, .int mdo, .int mnu, .ref m7, .ref m8, .ref m9, .ref m10])), (m1, .inl (cI, 24, .inl mvl)), (m2, .inl (cI, 96, .inl mof)), (m3, .inl (cI, 168, .inl mw)), (m4, .inl (cF, 288, .inr (.inr (.inl mf)))), (m5, .inl (cZ, 2, .inl mik)), (m6, .inl (cI, 200, .inl mtx)), (m7, .inl (cI, 56, .inl mwd)), (m8, .inl (cI, 3, .inl msz)), (m9, .inl (cI, 3, .inl mso)), (m10, .inl (cI, 24, .inl mpl))] none := by
  refine Ct.ofW (cc := cX6_clears) (maxL := 1) (ret := none) (by decide) rfl (Nat.le_of_ble_eq_true rfl) ?_
  intro p e s m args below meth c hx hb hr hml hts hown hlocks hnm hK hE A Q hQ hB H locs ls hP hD hS hl
  have hl : lv_has ls 1 [(0, .ref ma)] := hl
  have w0 : ∀ w ∈ u_ws RX6 TX6 23, w ∈ wsX6_clears := by decide +kernel
  have w1 := hts (.fieldLink RX6 100 "MotionStatesModel" "readStates" "I") (by decide +kernel)
  have w2 := hts (.fieldLink RX6 103 "MotionStatesModel" "readWays" "I") (by decide +kernel)
  have w3 := hts (.fieldLink RX6 96 "MotionStatesModel" "doing" "Z") (by decide +kernel)
  have w4 := hts (.fieldLink RX6 126 "MotionStatesModel" "mask" "I") (by decide +kernel)
  have w5 := hts (.fieldLink RX6 7 "MotionStatesModel" "weight" "I") (by decide +kernel)
  unfold f_X6_clears at hf
  refine lv_aload_n hx hb dX6_clears_0 rfl (lv_at hl 0 rfl) ?_
  refine lv_iconst (v := 0) hx hb dX6_clears_1 (by decide) ?_
  refine va_put (D := D) (ci := 6) (v := .int 0) (ty := .int) (C := RX6) (T := TX6) (N := 23) hx hb hts w0 tyX6 tyX6_ok nmX6 hown hK hP hD hS 0 rfl rfl 14 (by decide) w1 (fun _ h9 => h9) rfl (by decide +kernel) rfl rfl (Nat.le_of_ble_eq_true rfl) dX6_clears_2 (fun H locs hP hD hS => ?_)
  have hP : va_P D vwCl [(ma, .inr (6, [.int mst, .int mwy, .int mmk, .int mwt, .ref m1, .ref m2, .ref m3, .ref m4, .int mun, .ref m5, .ref m6, .int mln, .int mfi, .int mbe, .int 0, .int mrw, .int mcl, .int mdo, .int mnu, .ref m7, .ref m8, .ref m9, .ref m10])), (m1, .inl (cI, 24, .inl mvl)), (m2, .inl (cI, 96, .inl mof)), (m3, .inl (cI, 168, .inl mw)), (m4, .inl (cF, 288, .inr (.inr (.inl mf)))), (m5, .inl (cZ, 2, .inl mik)), (m6, .inl (cI, 200, .inl mtx)), (m7, .inl (cI, 56, .inl mwd)), (m8, .inl (cI, 3, .inl msz)), (m9, .inl (cI, 3, .inl mso)), (m10, .inl (cI, 24, .inl mpl))] H := hP
  have hD : va_D A [(ma, .inr (6, [.int mst, .int mwy, .int mmk, .int mwt, .ref m1, .ref m2, .ref m3, .ref m4, .int mun, .ref m5, .ref m6, .int mln, .int mfi, .int mbe, .int 0, .int mrw, .int mcl, .int mdo, .int mnu, .ref m7, .ref m8, .ref m9, .ref m10])), (m1, .inl (cI, 24, .inl mvl)), (m2, .inl (cI, 96, .inl mof)), (m3, .inl (cI, 168, .inl mw)), (m4, .inl (cF, 288, .inr (.inr (.inl mf)))), (m5, .inl (cZ, 2, .inl mik)), (m6, .inl (cI, 200, .inl mtx)), (m7, .inl (cI, 56, .inl mwd)), (m8, .inl (cI, 3, .inl msz)), (m9, .inl (cI, 3, .inl mso)), (m10, .inl (cI, 24, .inl mpl))] := hD
  refine lv_aload_n hx hb dX6_clears_5 rfl (lv_at hl 0 rfl) ?_
  refine lv_iconst (v := 0) hx hb dX6_clears_6 (by decide) ?_
  refine va_put (D := D) (ci := 6) (v := .int 0) (ty := .int) (C := RX6) (T := TX6) (N := 23) hx hb hts w0 tyX6 tyX6_ok nmX6 hown hK hP hD hS 0 rfl rfl 15 (by decide) w2 (fun _ h9 => h9) rfl (by decide +kernel) rfl rfl (Nat.le_of_ble_eq_true rfl) dX6_clears_7 (fun H locs hP hD hS => ?_)
  have hP : va_P D vwCl [(ma, .inr (6, [.int mst, .int mwy, .int mmk, .int mwt, .ref m1, .ref m2, .ref m3, .ref m4, .int mun, .ref m5, .ref m6, .int mln, .int mfi, .int mbe, .int 0, .int 0, .int mcl, .int mdo, .int mnu, .ref m7, .ref m8, .ref m9, .ref m10])), (m1, .inl (cI, 24, .inl mvl)), (m2, .inl (cI, 96, .inl mof)), (m3, .inl (cI, 168, .inl mw)), (m4, .inl (cF, 288, .inr (.inr (.inl mf)))), (m5, .inl (cZ, 2, .inl mik)), (m6, .inl (cI, 200, .inl mtx)), (m7, .inl (cI, 56, .inl mwd)), (m8, .inl (cI, 3, .inl msz)), (m9, .inl (cI, 3, .inl mso)), (m10, .inl (cI, 24, .inl mpl))] H := hP
  have hD : va_D A [(ma, .inr (6, [.int mst, .int mwy, .int mmk, .int mwt, .ref m1, .ref m2, .ref m3, .ref m4, .int mun, .ref m5, .ref m6, .int mln, .int mfi, .int mbe, .int 0, .int 0, .int mcl, .int mdo, .int mnu, .ref m7, .ref m8, .ref m9, .ref m10])), (m1, .inl (cI, 24, .inl mvl)), (m2, .inl (cI, 96, .inl mof)), (m3, .inl (cI, 168, .inl mw)), (m4, .inl (cF, 288, .inr (.inr (.inl mf)))), (m5, .inl (cZ, 2, .inl mik)), (m6, .inl (cI, 200, .inl mtx)), (m7, .inl (cI, 56, .inl mwd)), (m8, .inl (cI, 3, .inl msz)), (m9, .inl (cI, 3, .inl mso)), (m10, .inl (cI, 24, .inl mpl))] := hD
  refine lv_aload_n hx hb dX6_clears_10 rfl (lv_at hl 0 rfl) ?_
  refine va_get (D := D) (ci := 6) (v := .int mdo) (C := RX6) (T := TX6) (N := 23) hx hb hts w0 hown hK hP 0 rfl rfl 17 (by decide) w3 (fun _ h9 => h9) rfl dX6_clears_11 ?_
  refine lv_if_eq (tgt := 28) hx hb dX6_clears_14 (by decide) (fun c1 => ?_) (fun c1 => ?_)
  · have hf := if_p c1 hf
    have h1 := Option.some.inj hf
    subst h1
    rw [hQ]
    exact W.vret hx hb hr (fun t ht hW => qEnd hP hS ht) hS.2.2 dX6_clears_28
  · have hf := if_n c1 hf
    refine lv_aload_n hx hb dX6_clears_17 rfl (lv_at hl 0 rfl) ?_
    refine lv_iconst (v := 0) hx hb dX6_clears_18 (by decide) ?_
    refine va_put (D := D) (ci := 6) (v := .int 0) (ty := .int) (C := RX6) (T := TX6) (N := 23) hx hb hts w0 tyX6 tyX6_ok nmX6 hown hK hP hD hS 0 rfl rfl 2 (by decide) w4 (fun _ h9 => h9) rfl (by decide +kernel) rfl rfl (Nat.le_of_ble_eq_true rfl) dX6_clears_19 (fun H locs hP hD hS => ?_)
    have hP : va_P D vwCl [(ma, .inr (6, [.int mst, .int mwy, .int 0, .int mwt, .ref m1, .ref m2, .ref m3, .ref m4, .int mun, .ref m5, .ref m6, .int mln, .int mfi, .int mbe, .int 0, .int 0, .int mcl, .int mdo, .int mnu, .ref m7, .ref m8, .ref m9, .ref m10])), (m1, .inl (cI, 24, .inl mvl)), (m2, .inl (cI, 96, .inl mof)), (m3, .inl (cI, 168, .inl mw)), (m4, .inl (cF, 288, .inr (.inr (.inl mf)))), (m5, .inl (cZ, 2, .inl mik)), (m6, .inl (cI, 200, .inl mtx)), (m7, .inl (cI, 56, .inl mwd)), (m8, .inl (cI, 3, .inl msz)), (m9, .inl (cI, 3, .inl mso)), (m10, .inl (cI, 24, .inl mpl))] H := hP
    have hD : va_D A [(ma, .inr (6, [.int mst, .int mwy, .int 0, .int mwt, .ref m1, .ref m2, .ref m3, .ref m4, .int mun, .ref m5, .ref m6, .int mln, .int mfi, .int mbe, .int 0, .int 0, .int mcl, .int mdo, .int mnu, .ref m7, .ref m8, .ref m9, .ref m10])), (m1, .inl (cI, 24, .inl mvl)), (m2, .inl (cI, 96, .inl mof)), (m3, .inl (cI, 168, .inl mw)), (m4, .inl (cF, 288, .inr (.inr (.inl mf)))), (m5, .inl (cZ, 2, .inl mik)), (m6, .inl (cI, 200, .inl mtx)), (m7, .inl (cI, 56, .inl mwd)), (m8, .inl (cI, 3, .inl msz)), (m9, .inl (cI, 3, .inl mso)), (m10, .inl (cI, 24, .inl mpl))] := hD
    refine lv_aload_n hx hb dX6_clears_22 rfl (lv_at hl 0 rfl) ?_
    refine lv_bipush (v := 16) hx hb dX6_clears_23 (by decide) ?_
    refine va_put (D := D) (ci := 6) (v := .int 16) (ty := .int) (C := RX6) (T := TX6) (N := 23) hx hb hts w0 tyX6 tyX6_ok nmX6 hown hK hP hD hS 0 rfl rfl 3 (by decide) w5 (fun _ h9 => h9) rfl (by decide +kernel) rfl rfl (Nat.le_of_ble_eq_true rfl) dX6_clears_25 (fun H locs hP hD hS => ?_)
    have hP : va_P D vwCl [(ma, .inr (6, [.int mst, .int mwy, .int 0, .int 16, .ref m1, .ref m2, .ref m3, .ref m4, .int mun, .ref m5, .ref m6, .int mln, .int mfi, .int mbe, .int 0, .int 0, .int mcl, .int mdo, .int mnu, .ref m7, .ref m8, .ref m9, .ref m10])), (m1, .inl (cI, 24, .inl mvl)), (m2, .inl (cI, 96, .inl mof)), (m3, .inl (cI, 168, .inl mw)), (m4, .inl (cF, 288, .inr (.inr (.inl mf)))), (m5, .inl (cZ, 2, .inl mik)), (m6, .inl (cI, 200, .inl mtx)), (m7, .inl (cI, 56, .inl mwd)), (m8, .inl (cI, 3, .inl msz)), (m9, .inl (cI, 3, .inl mso)), (m10, .inl (cI, 24, .inl mpl))] H := hP
    have hD : va_D A [(ma, .inr (6, [.int mst, .int mwy, .int 0, .int 16, .ref m1, .ref m2, .ref m3, .ref m4, .int mun, .ref m5, .ref m6, .int mln, .int mfi, .int mbe, .int 0, .int 0, .int mcl, .int mdo, .int mnu, .ref m7, .ref m8, .ref m9, .ref m10])), (m1, .inl (cI, 24, .inl mvl)), (m2, .inl (cI, 96, .inl mof)), (m3, .inl (cI, 168, .inl mw)), (m4, .inl (cF, 288, .inr (.inr (.inl mf)))), (m5, .inl (cZ, 2, .inl mik)), (m6, .inl (cI, 200, .inl mtx)), (m7, .inl (cI, 56, .inl mwd)), (m8, .inl (cI, 3, .inl msz)), (m9, .inl (cI, 3, .inl mso)), (m10, .inl (cI, 24, .inl mpl))] := hD
    have h1 := Option.some.inj hf
    subst h1
    rw [hQ]
    exact W.vret hx hb hr (fun t ht hW => qEnd hP hS ht) hS.2.2 dX6_clears_28
set_option maxRecDepth 100000 in
set_option maxHeartbeats 4000000 in
theorem c_X6_takesClause (l : Launch) (D : va_G) (B : Nat) (adK adV : Nat → Nat) (cC cF cI cZ cM cS : ClassId) (ma : Nat) (mst : Int32) (mwy : Int32) (mmk : Int32) (mwt : Int32) (m1 : Nat) (m2 : Nat) (m3 : Nat) (m4 : Nat) (mun : Int32) (m5 : Nat) (m6 : Nat) (mln : Int32) (mfi : Int32) (mbe : Int32) (mrs : Int32) (mrw : Int32) (mcl : Int32) (mdo : Int32) (mnu : Int32) (m7 : Nat) (m8 : Nat) (m9 : Nat) (m10 : Nat) (mvl : Nat → Int32) (mof : Nat → Int32) (mw : Nat → Int32) (mf : Nat → UInt32) (mik : Nat → Int32) (mtx : Nat → Int32) (mwd : Nat → Int32) (msz : Nat → Int32) (mso : Nat → Int32) (mpl : Nat → Int32) (zz : Int32 × (Nat → Int32) × (Nat → Int32) × Int32 × Int32 × Int32 × Int32 × Int32 × Int32 × Int32) (hf : f_X6_takesClause mmk mwt mln mfi mbe mrs mrw mdo mnu mvl mof mtx mwd = some zz) : Ct l yX6_takesClause wsX6_takesClause { frames := 7, cells := 0, slots := 0, locals := 152 } D B adK adV (tysX cC cF cI cZ cM cS) [.ref ma] [(ma, .inr (6, [.int mst, .int mwy, .int mmk, .int mwt, .ref m1, .ref m2, .ref m3, .ref m4, .int mun, .ref m5, .ref m6, .int mln, .int mfi, .int mbe, .int mrs, .int mrw, .int mcl, .int mdo, .int mnu, .ref m7, .ref m8, .ref m9, .ref m10])), (m1, .inl (cI, 24, .inl mvl)), (m2, .inl (cI, 96, .inl mof)), (m3, .inl (cI, 168, .inl mw)), (m4, .inl (cF, 288, .inr (.inr (.inl mf)))), (m5, .inl (cZ, 2, .inl mik)), (m6, .inl (cI, 200, .inl mtx)), (m7, .inl (cI, 56, .inl mwd)), (m8, .inl (cI, 3, .inl msz)), (m9, .inl (cI, 3, .inl mso)), (m10, .inl (cI, 24, .inl mpl))] [(ma, .inr (6, [.int mst, .int mwy, .int zz.2.2.2.1, .int zz.2.2.2.2.1, .ref m1, .ref m2, .ref m3, .ref m4, .int mun, .ref m5, .ref m6, .int mln, .int zz.2.2.2.2.2.1, .int zz.2.2.2.2.2.2.1, .int zz.2.2.2.2.2.2.2.1, .int zz.2.2.2.2.2.2.2.2.1, .int mcl, .int mdo, .int zz.2.2.2.2.2.2.2.2.2, .ref m7, .ref m8, .ref m9, .ref m10])), (m1, .inl (cI, 24, .inl zz.2.1)), (m2, .inl (cI, 96, .inl zz.2.2.1)), (m3, .inl (cI, 168, .inl mw)), (m4, .inl (cF, 288, .inr (.inr (.inl mf)))), (m5, .inl (cZ, 2, .inl mik)), (m6, .inl (cI, 200, .inl mtx)), (m7, .inl (cI, 56, .inl mwd)), (m8, .inl (cI, 3, .inl msz)), (m9, .inl (cI, 3, .inl mso)), (m10, .inl (cI, 24, .inl mpl))] (some (.int zz.1)) := by
  refine Ct.ofW (cc := cX6_takesClause) (maxL := 3) (ret := (some .boolean)) (by decide) rfl (Nat.le_of_ble_eq_true rfl) ?_
  intro p e s m args below meth c hx hb hr hml hts hown hlocks hnm hK hE A Q hQ hB H locs ls hP hD hS hl
  have hl : lv_has ls 3 [(0, .ref ma)] := hl
  have w0 : ∀ w ∈ u_ws RX6 TX6 23, w ∈ wsX6_takesClause := by decide +kernel
  have w1 := hts (.fieldLink RX6 96 "MotionStatesModel" "doing" "Z") (by decide +kernel)
  have w2 := hts (.fieldLink RX6 17 "MotionStatesModel" "of" "[I") (by decide +kernel)
  have w3 := hts (.fieldLink RX6 103 "MotionStatesModel" "readWays" "I") (by decide +kernel)
  have w4 := hts (.fieldLink RX6 100 "MotionStatesModel" "readStates" "I") (by decide +kernel)
  unfold f_X6_takesClause at hf
  refine lv_aload_n hx hb dX6_takesClause_0 rfl (lv_at hl 0 rfl) ?_
  refine lv_iconst (v := 0) hx hb dX6_takesClause_1 (by decide) ?_
  refine lv_iconst (v := 5) hx hb dX6_takesClause_2 (by decide) ?_
  obtain ⟨r1, hc2, hf⟩ := bd_inv hf
  refine xcV (As := [.int 0, .int 5]) (rest := []) (ws' := [(ma, .inr (6, [.int mst, .int mwy, .int mmk, .int mwt, .ref m1, .ref m2, .ref m3, .ref m4, .int mun, .ref m5, .ref m6, .int mln, .int mfi, .int mbe, .int mrs, .int mrw, .int mcl, .int mdo, .int mnu, .ref m7, .ref m8, .ref m9, .ref m10])), (m1, .inl (cI, 24, .inl mvl)), (m2, .inl (cI, 96, .inl mof)), (m3, .inl (cI, 168, .inl mw)), (m4, .inl (cF, 288, .inr (.inr (.inl mf)))), (m5, .inl (cZ, 2, .inl mik)), (m6, .inl (cI, 200, .inl mtx)), (m7, .inl (cI, 56, .inl mwd)), (m8, .inl (cI, 3, .inl msz)), (m9, .inl (cI, 3, .inl mso)), (m10, .inl (cI, 24, .inl mpl))]) ⟨hx, hb, hml, hown, hts⟩ (c_X6_wordHere l D B adK adV cC cF cI cZ cM cS ma mst mwy mmk mwt m1 m2 m3 m4 mun m5 m6 mln mfi mbe mrs mrw mcl mdo mnu m7 m8 m9 m10 mvl mof mw mf mik mtx mwd msz mso mpl 0 5  r1 hc2) (cwV 2 hts gX6_takesClause_X6_wordHere rfl rfl rfl (by decide +kernel) ⟨Nat.le_of_ble_eq_true rfl, Nat.le_of_ble_eq_true rfl⟩) (va_recv hK hP (ci := 6) (q0 := 0) rfl rfl) hK hP hD hS hB hE [0, 1, 2, 3, 4, 5, 6, 7, 8, 9, 10] rfl rfl rfl rfl rfl hl.1 rfl (Nat.le_of_ble_eq_true rfl) dX6_takesClause_3 ⟨Nat.le_of_ble_eq_true rfl, Nat.le_of_ble_eq_true rfl⟩ (fun H locs hP hD hS => ?_)
  refine W.eq (g2 := F0 m 6 ls [.int r1]) rfl ?_
  refine lv_istore_n (lv' := [(1, .int r1), (0, .ref ma)]) hx hb dX6_takesClause_6 rfl hl (by decide) rfl (fun ls hl => ?_)
  refine lv_iload_n hx hb dX6_takesClause_7 rfl (lv_at hl 0 rfl) ?_
  refine lv_iconst (v := (-1)) hx hb dX6_takesClause_8 (by decide) ?_
  refine lv_icmp_eq (tgt := 56) hx hb dX6_takesClause_9 (by decide) (fun c3 => ?_) (fun c3 => ?_)
  · have hf := if_p c3 hf
    refine lv_iconst (v := 0) hx hb dX6_takesClause_56 (by decide) ?_
    refine lv_istore_n (lv' := [(2, .int 0), (1, .int r1), (0, .ref ma)]) hx hb dX6_takesClause_57 rfl hl (by decide) rfl (fun ls hl => ?_)
    refine lv_iload_n hx hb dX6_takesClause_58 rfl (lv_at hl 0 rfl) ?_
    refine lv_if_ne (tgt := 64) hx hb dX6_takesClause_59 (by decide) (fun c4 => absurd c4 (by decide)) (fun c4 => ?_)
    refine lv_iconst (v := 0) hx hb dX6_takesClause_62 (by decide) ?_
    have h1 := Option.some.inj hf
    subst h1
    rw [hQ]
    exact W.zret (v := 0) (ty := .boolean) hx hb hr rfl (fun t ht hW => qEnd hP hS ht) hS.2.2 dX6_takesClause_63
  · have hf := if_n c3 hf
    refine lv_iload_n hx hb dX6_takesClause_12 rfl (lv_at hl 0 rfl) ?_
    refine lv_iconst (v := 1) hx hb dX6_takesClause_13 (by decide) ?_
    refine lv_icmp_ne (tgt := 26) hx hb dX6_takesClause_14 (by decide) (fun c5 => ?_) (fun c5 => ?_)
    · have hf := if_n c5 hf
      refine lv_iload_n hx hb dX6_takesClause_26 rfl (lv_at hl 0 rfl) ?_
      refine lv_iconst (v := 2) hx hb dX6_takesClause_27 (by decide) ?_
      refine lv_icmp_ne (tgt := 40) hx hb dX6_takesClause_28 (by decide) (fun c6 => ?_) (fun c6 => ?_)
      · have hf := if_n c6 hf
        refine lv_iload_n hx hb dX6_takesClause_40 rfl (lv_at hl 0 rfl) ?_
        refine lv_iconst (v := 3) hx hb dX6_takesClause_41 (by decide) ?_
        refine lv_icmp_ne (tgt := 52) hx hb dX6_takesClause_42 (by decide) (fun c7 => ?_) (fun c7 => ?_)
        · have hf := if_n c7 hf
          refine lv_iconst (v := 1) hx hb dX6_takesClause_52 (by decide) ?_
          refine lv_goto (tgt := 57) hx hb dX6_takesClause_53 (by decide) ?_
          refine lv_istore_n (lv' := [(2, .int 1), (1, .int r1), (0, .ref ma)]) hx hb dX6_takesClause_57 rfl hl (by decide) rfl (fun ls hl => ?_)
          refine lv_iload_n hx hb dX6_takesClause_58 rfl (lv_at hl 0 rfl) ?_
          refine lv_if_ne (tgt := 64) hx hb dX6_takesClause_59 (by decide) (fun c8 => ?_) (fun c8 => absurd c8 (by decide))
          refine lv_aload_n hx hb dX6_takesClause_64 rfl (lv_at hl 2 rfl) ?_
          obtain ⟨⟨o9, o10⟩, hc11, hf⟩ := bd_inv hf
          refine xcV (As := []) (rest := []) (ws' := [(ma, .inr (6, [.int mst, .int mwy, .int mmk, .int mwt, .ref m1, .ref m2, .ref m3, .ref m4, .int mun, .ref m5, .ref m6, .int mln, .int o9, .int o10, .int mrs, .int mrw, .int mcl, .int mdo, .int mnu, .ref m7, .ref m8, .ref m9, .ref m10])), (m1, .inl (cI, 24, .inl mvl)), (m2, .inl (cI, 96, .inl mof)), (m3, .inl (cI, 168, .inl mw)), (m4, .inl (cF, 288, .inr (.inr (.inl mf)))), (m5, .inl (cZ, 2, .inl mik)), (m6, .inl (cI, 200, .inl mtx)), (m7, .inl (cI, 56, .inl mwd)), (m8, .inl (cI, 3, .inl msz)), (m9, .inl (cI, 3, .inl mso)), (m10, .inl (cI, 24, .inl mpl))]) ⟨hx, hb, hml, hown, hts⟩ (c_X6_nextToken l D B adK adV cC cF cI cZ cM cS ma mst mwy mmk mwt m1 m2 m3 m4 mun m5 m6 mln mfi mbe mrs mrw mcl mdo mnu m7 m8 m9 m10 mvl mof mw mf mik mtx mwd msz mso mpl  (o9, o10) hc11) (cwV 0 hts gX6_takesClause_X6_nextToken rfl rfl rfl (by decide +kernel) ⟨Nat.le_of_ble_eq_true rfl, Nat.le_of_ble_eq_true rfl⟩) (va_recv hK hP (ci := 6) (q0 := 0) rfl rfl) hK hP hD hS hB hE [0, 1, 2, 3, 4, 5, 6, 7, 8, 9, 10] rfl rfl rfl rfl rfl hl.1 rfl (Nat.le_of_ble_eq_true rfl) dX6_takesClause_65 ⟨Nat.le_of_ble_eq_true rfl, Nat.le_of_ble_eq_true rfl⟩ (fun H locs hP hD hS => ?_)
          refine W.eq (g2 := F0 m 68 ls []) rfl ?_
          refine lv_iload_n hx hb dX6_takesClause_68 rfl (lv_at hl 1 rfl) ?_
          by_cases c12 : r1 = 0
          · have hf := if_p c12 hf
            refine lv_tableIn (off := 31) (tgt := 100) hx hb dX6_takesClause_69 (by rw [c12]; decide) (by rw [c12]; decide) (by rw [c12]; decide) (by decide) ?_
            refine lv_aload_n hx hb dX6_takesClause_100 rfl (lv_at hl 2 rfl) ?_
            obtain ⟨⟨o13, o14, o15, o16⟩, hc17, hf⟩ := bd_inv hf
            refine xcV (As := []) (rest := []) (ws' := [(ma, .inr (6, [.int mst, .int mwy, .int o13, .int o14, .ref m1, .ref m2, .ref m3, .ref m4, .int mun, .ref m5, .ref m6, .int mln, .int o9, .int o10, .int o15, .int o16, .int mcl, .int mdo, .int mnu, .ref m7, .ref m8, .ref m9, .ref m10])), (m1, .inl (cI, 24, .inl mvl)), (m2, .inl (cI, 96, .inl mof)), (m3, .inl (cI, 168, .inl mw)), (m4, .inl (cF, 288, .inr (.inr (.inl mf)))), (m5, .inl (cZ, 2, .inl mik)), (m6, .inl (cI, 200, .inl mtx)), (m7, .inl (cI, 56, .inl mwd)), (m8, .inl (cI, 3, .inl msz)), (m9, .inl (cI, 3, .inl mso)), (m10, .inl (cI, 24, .inl mpl))]) ⟨hx, hb, hml, hown, hts⟩ (c_X6_clears l D B adK adV cC cF cI cZ cM cS ma mst mwy mmk mwt m1 m2 m3 m4 mun m5 m6 mln o9 o10 mrs mrw mcl mdo mnu m7 m8 m9 m10 mvl mof mw mf mik mtx mwd msz mso mpl  (o13, o14, o15, o16) hc17) (cwV 0 hts gX6_takesClause_X6_clears rfl rfl rfl (by decide +kernel) ⟨Nat.le_of_ble_eq_true rfl, Nat.le_of_ble_eq_true rfl⟩) (va_recv hK hP (ci := 6) (q0 := 0) rfl rfl) hK hP hD hS hB hE [0, 1, 2, 3, 4, 5, 6, 7, 8, 9, 10] rfl rfl rfl rfl rfl hl.1 rfl (Nat.le_of_ble_eq_true rfl) dX6_takesClause_101 ⟨Nat.le_of_ble_eq_true rfl, Nat.le_of_ble_eq_true rfl⟩ (fun H locs hP hD hS => ?_)
            refine W.eq (g2 := F0 m 104 ls []) rfl ?_
            refine lv_iconst (v := 1) hx hb dX6_takesClause_104 (by decide) ?_
            have h1 := Option.some.inj hf
            subst h1
            rw [hQ]
            exact W.zret (v := 1) (ty := .boolean) hx hb hr rfl (fun t ht hW => qEnd hP hS ht) hS.2.2 dX6_takesClause_105
          · have hf := if_n c12 hf
            by_cases c18 : r1 = 1
            · have hf := if_p c18 hf
              refine lv_tableIn (off := 37) (tgt := 106) hx hb dX6_takesClause_69 (by rw [c18]; decide) (by rw [c18]; decide) (by rw [c18]; decide) (by decide) ?_
              refine lv_aload_n hx hb dX6_takesClause_106 rfl (lv_at hl 2 rfl) ?_
              obtain ⟨⟨r19, o20, o21, o22, o23, o24⟩, hc25, hf⟩ := bd_inv hf
              refine xcV (As := []) (rest := []) (ws' := [(ma, .inr (6, [.int mst, .int mwy, .int mmk, .int mwt, .ref m1, .ref m2, .ref m3, .ref m4, .int mun, .ref m5, .ref m6, .int mln, .int o21, .int o22, .int o23, .int mrw, .int mcl, .int mdo, .int o24, .ref m7, .ref m8, .ref m9, .ref m10])), (m1, .inl (cI, 24, .inl o20)), (m2, .inl (cI, 96, .inl mof)), (m3, .inl (cI, 168, .inl mw)), (m4, .inl (cF, 288, .inr (.inr (.inl mf)))), (m5, .inl (cZ, 2, .inl mik)), (m6, .inl (cI, 200, .inl mtx)), (m7, .inl (cI, 56, .inl mwd)), (m8, .inl (cI, 3, .inl msz)), (m9, .inl (cI, 3, .inl mso)), (m10, .inl (cI, 24, .inl mpl))]) ⟨hx, hb, hml, hown, hts⟩ (c_X6_takesState l D B adK adV cC cF cI cZ cM cS ma mst mwy mmk mwt m1 m2 m3 m4 mun m5 m6 mln o9 o10 mrs mrw mcl mdo mnu m7 m8 m9 m10 mvl mof mw mf mik mtx mwd msz mso mpl  (r19, o20, o21, o22, o23, o24) hc25) (cwV 0 hts gX6_takesClause_X6_takesState rfl rfl rfl (by decide +kernel) ⟨Nat.le_of_ble_eq_true rfl, Nat.le_of_ble_eq_true rfl⟩) (va_recv hK hP (ci := 6) (q0 := 0) rfl rfl) hK hP hD hS hB hE [0, 1, 2, 3, 4, 5, 6, 7, 8, 9, 10] rfl rfl rfl rfl rfl hl.1 rfl (Nat.le_of_ble_eq_true rfl) dX6_takesClause_107 ⟨Nat.le_of_ble_eq_true rfl, Nat.le_of_ble_eq_true rfl⟩ (fun H locs hP hD hS => ?_)
              refine W.eq (g2 := F0 m 110 ls [.int r19]) rfl ?_
              obtain ⟨g26, hf⟩ := gd_inv hf
              have h1 := Option.some.inj hf
              subst h1
              rw [hQ]
              exact W.zret (v := r19) (ty := .boolean) hx hb hr (zok_n g26) (fun t ht hW => qEnd hP hS ht) hS.2.2 dX6_takesClause_110
            · have hf := if_n c18 hf
              by_cases c27 : r1 = 2
              · have hf := if_p c27 hf
                refine lv_tableIn (off := 42) (tgt := 111) hx hb dX6_takesClause_69 (by rw [c27]; decide) (by rw [c27]; decide) (by rw [c27]; decide) (by decide) ?_
                refine lv_aload_n hx hb dX6_takesClause_111 rfl (lv_at hl 2 rfl) ?_
                obtain ⟨⟨r28, o29, o30, o31, o32, o33⟩, hc34, hf⟩ := bd_inv hf
                refine xcV (As := []) (rest := []) (ws' := [(ma, .inr (6, [.int mst, .int mwy, .int mmk, .int mwt, .ref m1, .ref m2, .ref m3, .ref m4, .int mun, .ref m5, .ref m6, .int mln, .int o30, .int o31, .int mrs, .int o32, .int mcl, .int mdo, .int o33, .ref m7, .ref m8, .ref m9, .ref m10])), (m1, .inl (cI, 24, .inl mvl)), (m2, .inl (cI, 96, .inl o29)), (m3, .inl (cI, 168, .inl mw)), (m4, .inl (cF, 288, .inr (.inr (.inl mf)))), (m5, .inl (cZ, 2, .inl mik)), (m6, .inl (cI, 200, .inl mtx)), (m7, .inl (cI, 56, .inl mwd)), (m8, .inl (cI, 3, .inl msz)), (m9, .inl (cI, 3, .inl mso)), (m10, .inl (cI, 24, .inl mpl))]) ⟨hx, hb, hml, hown, hts⟩ (c_X6_takesWay l D B adK adV cC cF cI cZ cM cS ma mst mwy mmk mwt m1 m2 m3 m4 mun m5 m6 mln o9 o10 mrs mrw mcl mdo mnu m7 m8 m9 m10 mvl mof mw mf mik mtx mwd msz mso mpl  (r28, o29, o30, o31, o32, o33) hc34) (cwV 0 hts gX6_takesClause_X6_takesWay rfl rfl rfl (by decide +kernel) ⟨Nat.le_of_ble_eq_true rfl, Nat.le_of_ble_eq_true rfl⟩) (va_recv hK hP (ci := 6) (q0 := 0) rfl rfl) hK hP hD hS hB hE [0, 1, 2, 3, 4, 5, 6, 7, 8, 9, 10] rfl rfl rfl rfl rfl hl.1 rfl (Nat.le_of_ble_eq_true rfl) dX6_takesClause_112 ⟨Nat.le_of_ble_eq_true rfl, Nat.le_of_ble_eq_true rfl⟩ (fun H locs hP hD hS => ?_)
                refine W.eq (g2 := F0 m 115 ls [.int r28]) rfl ?_
                obtain ⟨g35, hf⟩ := gd_inv hf
                have h1 := Option.some.inj hf
                subst h1
                rw [hQ]
                exact W.zret (v := r28) (ty := .boolean) hx hb hr (zok_n g35) (fun t ht hW => qEnd hP hS ht) hS.2.2 dX6_takesClause_115
              · have hf := if_n c27 hf
                by_cases c36 : r1 = 3
                · have hf := if_p c36 hf
                  refine lv_tableIn (off := 47) (tgt := 116) hx hb dX6_takesClause_69 (by rw [c36]; decide) (by rw [c36]; decide) (by rw [c36]; decide) (by decide) ?_
                  refine lv_aload_n hx hb dX6_takesClause_116 rfl (lv_at hl 2 rfl) ?_
                  refine va_get (D := D) (ci := 6) (v := .int mdo) (C := RX6) (T := TX6) (N := 23) hx hb hts w0 hown hK hP 0 rfl rfl 17 (by decide) w1 (fun _ h9 => h9) rfl dX6_takesClause_117 ?_
                  refine lv_if_eq (tgt := 141) hx hb dX6_takesClause_120 (by decide) (fun c37 => ?_) (fun c37 => ?_)
                  · have hf := if_p c37 hf
                    refine lv_iconst (v := 1) hx hb dX6_takesClause_141 (by decide) ?_
                    have h1 := Option.some.inj hf
                    subst h1
                    rw [hQ]
                    exact W.zret (v := 1) (ty := .boolean) hx hb hr rfl (fun t ht hW => qEnd hP hS ht) hS.2.2 dX6_takesClause_142
                  · have hf := if_n c37 hf
                    refine lv_aload_n hx hb dX6_takesClause_123 rfl (lv_at hl 2 rfl) ?_
                    refine va_get (D := D) (ci := 6) (v := .ref m2) (C := RX6) (T := TX6) (N := 23) hx hb hts w0 hown hK hP 0 rfl rfl 5 (by decide) w2 (fun _ h9 => h9) rfl dX6_takesClause_124 ?_
                    refine lv_bipush (v := 8) hx hb dX6_takesClause_127 (by decide) ?_
                    refine lv_aload_n hx hb dX6_takesClause_129 rfl (lv_at hl 2 rfl) ?_
                    refine va_get (D := D) (ci := 6) (v := .int mrw) (C := RX6) (T := TX6) (N := 23) hx hb hts w0 hown hK hP 0 rfl rfl 15 (by decide) w3 (fun _ h9 => h9) rfl dX6_takesClause_130 ?_
                    refine lv_imul hx hb dX6_takesClause_133 ?_
                    refine lv_bipush (v := 8) hx hb dX6_takesClause_134 (by decide) ?_
                    refine lv_isub hx hb dX6_takesClause_136 ?_
                    refine lv_iconst (v := 3) hx hb dX6_takesClause_137 (by decide) ?_
                    refine lv_iadd hx hb dX6_takesClause_138 ?_
                    refine lv_iconst (v := 1) hx hb dX6_takesClause_139 (by decide) ?_
                    obtain ⟨g38, hf⟩ := gd_inv hf
                    refine va_iast hx hb hK hP hD hS 2 2 rfl rfl g38 dX6_takesClause_140 (fun H locs hP hD hS => ?_)
                    have hP : va_P D vwCl [(ma, .inr (6, [.int mst, .int mwy, .int mmk, .int mwt, .ref m1, .ref m2, .ref m3, .ref m4, .int mun, .ref m5, .ref m6, .int mln, .int o9, .int o10, .int mrs, .int mrw, .int mcl, .int mdo, .int mnu, .ref m7, .ref m8, .ref m9, .ref m10])), (m1, .inl (cI, 24, .inl mvl)), (m2, .inl (cI, 96, .inl (upd mof (((((8 : Int32) * mrw) - 8) + 3).toNatClampNeg) 1))), (m3, .inl (cI, 168, .inl mw)), (m4, .inl (cF, 288, .inr (.inr (.inl mf)))), (m5, .inl (cZ, 2, .inl mik)), (m6, .inl (cI, 200, .inl mtx)), (m7, .inl (cI, 56, .inl mwd)), (m8, .inl (cI, 3, .inl msz)), (m9, .inl (cI, 3, .inl mso)), (m10, .inl (cI, 24, .inl mpl))] H := hP
                    have hD : va_D A [(ma, .inr (6, [.int mst, .int mwy, .int mmk, .int mwt, .ref m1, .ref m2, .ref m3, .ref m4, .int mun, .ref m5, .ref m6, .int mln, .int o9, .int o10, .int mrs, .int mrw, .int mcl, .int mdo, .int mnu, .ref m7, .ref m8, .ref m9, .ref m10])), (m1, .inl (cI, 24, .inl mvl)), (m2, .inl (cI, 96, .inl (upd mof (((((8 : Int32) * mrw) - 8) + 3).toNatClampNeg) 1))), (m3, .inl (cI, 168, .inl mw)), (m4, .inl (cF, 288, .inr (.inr (.inl mf)))), (m5, .inl (cZ, 2, .inl mik)), (m6, .inl (cI, 200, .inl mtx)), (m7, .inl (cI, 56, .inl mwd)), (m8, .inl (cI, 3, .inl msz)), (m9, .inl (cI, 3, .inl mso)), (m10, .inl (cI, 24, .inl mpl))] := hD
                    refine lv_iconst (v := 1) hx hb dX6_takesClause_141 (by decide) ?_
                    have h1 := Option.some.inj hf
                    subst h1
                    rw [hQ]
                    exact W.zret (v := 1) (ty := .boolean) hx hb hr rfl (fun t ht hW => qEnd hP hS ht) hS.2.2 dX6_takesClause_142
                · have hf := if_n c36 hf
                  refine lv_tableOut (tgt := 143) hx hb dX6_takesClause_69 (by have h0 := lv_neT c12 (a := 0) rfl; have h1 := lv_neT c18 (a := 1) rfl; have h2 := lv_neT c27 (a := 2) rfl; have h3 := lv_neT c36 (a := 3) rfl; omega) (by decide) ?_
                  refine lv_aload_n hx hb dX6_takesClause_143 rfl (lv_at hl 2 rfl) ?_
                  obtain ⟨⟨r39, o40, o41, o42, o43, o44⟩, hc45, hf⟩ := bd_inv hf
                  refine xcV (As := []) (rest := []) (ws' := [(ma, .inr (6, [.int mst, .int mwy, .int o40, .int o41, .ref m1, .ref m2, .ref m3, .ref m4, .int mun, .ref m5, .ref m6, .int mln, .int o42, .int o43, .int mrs, .int mrw, .int mcl, .int mdo, .int o44, .ref m7, .ref m8, .ref m9, .ref m10])), (m1, .inl (cI, 24, .inl mvl)), (m2, .inl (cI, 96, .inl mof)), (m3, .inl (cI, 168, .inl mw)), (m4, .inl (cF, 288, .inr (.inr (.inl mf)))), (m5, .inl (cZ, 2, .inl mik)), (m6, .inl (cI, 200, .inl mtx)), (m7, .inl (cI, 56, .inl mwd)), (m8, .inl (cI, 3, .inl msz)), (m9, .inl (cI, 3, .inl mso)), (m10, .inl (cI, 24, .inl mpl))]) ⟨hx, hb, hml, hown, hts⟩ (c_X6_takesMask l D B adK adV cC cF cI cZ cM cS ma mst mwy mmk mwt m1 m2 m3 m4 mun m5 m6 mln o9 o10 mrs mrw mcl mdo mnu m7 m8 m9 m10 mvl mof mw mf mik mtx mwd msz mso mpl  (r39, o40, o41, o42, o43, o44) hc45) (cwV 0 hts gX6_takesClause_X6_takesMask rfl rfl rfl (by decide +kernel) ⟨Nat.le_of_ble_eq_true rfl, Nat.le_of_ble_eq_true rfl⟩) (va_recv hK hP (ci := 6) (q0 := 0) rfl rfl) hK hP hD hS hB hE [0, 1, 2, 3, 4, 5, 6, 7, 8, 9, 10] rfl rfl rfl rfl rfl hl.1 rfl (Nat.le_of_ble_eq_true rfl) dX6_takesClause_144 ⟨Nat.le_of_ble_eq_true rfl, Nat.le_of_ble_eq_true rfl⟩ (fun H locs hP hD hS => ?_)
                  refine W.eq (g2 := F0 m 147 ls [.int r39]) rfl ?_
                  obtain ⟨g46, hf⟩ := gd_inv hf
                  have h1 := Option.some.inj hf
                  subst h1
                  rw [hQ]
                  exact W.zret (v := r39) (ty := .boolean) hx hb hr (zok_n g46) (fun t ht hW => qEnd hP hS ht) hS.2.2 dX6_takesClause_147
        · have hf := if_p c7 hf
          refine lv_aload_n hx hb dX6_takesClause_45 rfl (lv_at hl 1 rfl) ?_
          refine va_get (D := D) (ci := 6) (v := .int mrw) (C := RX6) (T := TX6) (N := 23) hx hb hts w0 hown hK hP 0 rfl rfl 15 (by decide) w3 (fun _ h9 => h9) rfl dX6_takesClause_46 ?_
          refine lv_if_le (tgt := 56) hx hb dX6_takesClause_49 (by decide) (fun c47 => ?_) (fun c47 => ?_)
          · have hf := if_p c47 hf
            refine lv_iconst (v := 0) hx hb dX6_takesClause_56 (by decide) ?_
            refine lv_istore_n (lv' := [(2, .int 0), (1, .int r1), (0, .ref ma)]) hx hb dX6_takesClause_57 rfl hl (by decide) rfl (fun ls hl => ?_)
            refine lv_iload_n hx hb dX6_takesClause_58 rfl (lv_at hl 0 rfl) ?_
            refine lv_if_ne (tgt := 64) hx hb dX6_takesClause_59 (by decide) (fun c48 => absurd c48 (by decide)) (fun c48 => ?_)
            refine lv_iconst (v := 0) hx hb dX6_takesClause_62 (by decide) ?_
            have h1 := Option.some.inj hf
            subst h1
            rw [hQ]
            exact W.zret (v := 0) (ty := .boolean) hx hb hr rfl (fun t ht hW => qEnd hP hS ht) hS.2.2 dX6_takesClause_63
          · have hf := if_n c47 hf
            refine lv_iconst (v := 1) hx hb dX6_takesClause_52 (by decide) ?_
            refine lv_goto (tgt := 57) hx hb dX6_takesClause_53 (by decide) ?_
            refine lv_istore_n (lv' := [(2, .int 1), (1, .int r1), (0, .ref ma)]) hx hb dX6_takesClause_57 rfl hl (by decide) rfl (fun ls hl => ?_)
            refine lv_iload_n hx hb dX6_takesClause_58 rfl (lv_at hl 0 rfl) ?_
            refine lv_if_ne (tgt := 64) hx hb dX6_takesClause_59 (by decide) (fun c49 => ?_) (fun c49 => absurd c49 (by decide))
            refine lv_aload_n hx hb dX6_takesClause_64 rfl (lv_at hl 2 rfl) ?_
            obtain ⟨⟨o50, o51⟩, hc52, hf⟩ := bd_inv hf
            refine xcV (As := []) (rest := []) (ws' := [(ma, .inr (6, [.int mst, .int mwy, .int mmk, .int mwt, .ref m1, .ref m2, .ref m3, .ref m4, .int mun, .ref m5, .ref m6, .int mln, .int o50, .int o51, .int mrs, .int mrw, .int mcl, .int mdo, .int mnu, .ref m7, .ref m8, .ref m9, .ref m10])), (m1, .inl (cI, 24, .inl mvl)), (m2, .inl (cI, 96, .inl mof)), (m3, .inl (cI, 168, .inl mw)), (m4, .inl (cF, 288, .inr (.inr (.inl mf)))), (m5, .inl (cZ, 2, .inl mik)), (m6, .inl (cI, 200, .inl mtx)), (m7, .inl (cI, 56, .inl mwd)), (m8, .inl (cI, 3, .inl msz)), (m9, .inl (cI, 3, .inl mso)), (m10, .inl (cI, 24, .inl mpl))]) ⟨hx, hb, hml, hown, hts⟩ (c_X6_nextToken l D B adK adV cC cF cI cZ cM cS ma mst mwy mmk mwt m1 m2 m3 m4 mun m5 m6 mln mfi mbe mrs mrw mcl mdo mnu m7 m8 m9 m10 mvl mof mw mf mik mtx mwd msz mso mpl  (o50, o51) hc52) (cwV 0 hts gX6_takesClause_X6_nextToken rfl rfl rfl (by decide +kernel) ⟨Nat.le_of_ble_eq_true rfl, Nat.le_of_ble_eq_true rfl⟩) (va_recv hK hP (ci := 6) (q0 := 0) rfl rfl) hK hP hD hS hB hE [0, 1, 2, 3, 4, 5, 6, 7, 8, 9, 10] rfl rfl rfl rfl rfl hl.1 rfl (Nat.le_of_ble_eq_true rfl) dX6_takesClause_65 ⟨Nat.le_of_ble_eq_true rfl, Nat.le_of_ble_eq_true rfl⟩ (fun H locs hP hD hS => ?_)
            refine W.eq (g2 := F0 m 68 ls []) rfl ?_
            refine lv_iload_n hx hb dX6_takesClause_68 rfl (lv_at hl 1 rfl) ?_
            by_cases c53 : r1 = 0
            · have hf := if_p c53 hf
              refine lv_tableIn (off := 31) (tgt := 100) hx hb dX6_takesClause_69 (by rw [c53]; decide) (by rw [c53]; decide) (by rw [c53]; decide) (by decide) ?_
              refine lv_aload_n hx hb dX6_takesClause_100 rfl (lv_at hl 2 rfl) ?_
              obtain ⟨⟨o54, o55, o56, o57⟩, hc58, hf⟩ := bd_inv hf
              refine xcV (As := []) (rest := []) (ws' := [(ma, .inr (6, [.int mst, .int mwy, .int o54, .int o55, .ref m1, .ref m2, .ref m3, .ref m4, .int mun, .ref m5, .ref m6, .int mln, .int o50, .int o51, .int o56, .int o57, .int mcl, .int mdo, .int mnu, .ref m7, .ref m8, .ref m9, .ref m10])), (m1, .inl (cI, 24, .inl mvl)), (m2, .inl (cI, 96, .inl mof)), (m3, .inl (cI, 168, .inl mw)), (m4, .inl (cF, 288, .inr (.inr (.inl mf)))), (m5, .inl (cZ, 2, .inl mik)), (m6, .inl (cI, 200, .inl mtx)), (m7, .inl (cI, 56, .inl mwd)), (m8, .inl (cI, 3, .inl msz)), (m9, .inl (cI, 3, .inl mso)), (m10, .inl (cI, 24, .inl mpl))]) ⟨hx, hb, hml, hown, hts⟩ (c_X6_clears l D B adK adV cC cF cI cZ cM cS ma mst mwy mmk mwt m1 m2 m3 m4 mun m5 m6 mln o50 o51 mrs mrw mcl mdo mnu m7 m8 m9 m10 mvl mof mw mf mik mtx mwd msz mso mpl  (o54, o55, o56, o57) hc58) (cwV 0 hts gX6_takesClause_X6_clears rfl rfl rfl (by decide +kernel) ⟨Nat.le_of_ble_eq_true rfl, Nat.le_of_ble_eq_true rfl⟩) (va_recv hK hP (ci := 6) (q0 := 0) rfl rfl) hK hP hD hS hB hE [0, 1, 2, 3, 4, 5, 6, 7, 8, 9, 10] rfl rfl rfl rfl rfl hl.1 rfl (Nat.le_of_ble_eq_true rfl) dX6_takesClause_101 ⟨Nat.le_of_ble_eq_true rfl, Nat.le_of_ble_eq_true rfl⟩ (fun H locs hP hD hS => ?_)
              refine W.eq (g2 := F0 m 104 ls []) rfl ?_
              refine lv_iconst (v := 1) hx hb dX6_takesClause_104 (by decide) ?_
              have h1 := Option.some.inj hf
              subst h1
              rw [hQ]
              exact W.zret (v := 1) (ty := .boolean) hx hb hr rfl (fun t ht hW => qEnd hP hS ht) hS.2.2 dX6_takesClause_105
            · have hf := if_n c53 hf
              by_cases c59 : r1 = 1
              · have hf := if_p c59 hf
                refine lv_tableIn (off := 37) (tgt := 106) hx hb dX6_takesClause_69 (by rw [c59]; decide) (by rw [c59]; decide) (by rw [c59]; decide) (by decide) ?_
                refine lv_aload_n hx hb dX6_takesClause_106 rfl (lv_at hl 2 rfl) ?_
                obtain ⟨⟨r60, o61, o62, o63, o64, o65⟩, hc66, hf⟩ := bd_inv hf
                refine xcV (As := []) (rest := []) (ws' := [(ma, .inr (6, [.int mst, .int mwy, .int mmk, .int mwt, .ref m1, .ref m2, .ref m3, .ref m4, .int mun, .ref m5, .ref m6, .int mln, .int o62, .int o63, .int o64, .int mrw, .int mcl, .int mdo, .int o65, .ref m7, .ref m8, .ref m9, .ref m10])), (m1, .inl (cI, 24, .inl o61)), (m2, .inl (cI, 96, .inl mof)), (m3, .inl (cI, 168, .inl mw)), (m4, .inl (cF, 288, .inr (.inr (.inl mf)))), (m5, .inl (cZ, 2, .inl mik)), (m6, .inl (cI, 200, .inl mtx)), (m7, .inl (cI, 56, .inl mwd)), (m8, .inl (cI, 3, .inl msz)), (m9, .inl (cI, 3, .inl mso)), (m10, .inl (cI, 24, .inl mpl))]) ⟨hx, hb, hml, hown, hts⟩ (c_X6_takesState l D B adK adV cC cF cI cZ cM cS ma mst mwy mmk mwt m1 m2 m3 m4 mun m5 m6 mln o50 o51 mrs mrw mcl mdo mnu m7 m8 m9 m10 mvl mof mw mf mik mtx mwd msz mso mpl  (r60, o61, o62, o63, o64, o65) hc66) (cwV 0 hts gX6_takesClause_X6_takesState rfl rfl rfl (by decide +kernel) ⟨Nat.le_of_ble_eq_true rfl, Nat.le_of_ble_eq_true rfl⟩) (va_recv hK hP (ci := 6) (q0 := 0) rfl rfl) hK hP hD hS hB hE [0, 1, 2, 3, 4, 5, 6, 7, 8, 9, 10] rfl rfl rfl rfl rfl hl.1 rfl (Nat.le_of_ble_eq_true rfl) dX6_takesClause_107 ⟨Nat.le_of_ble_eq_true rfl, Nat.le_of_ble_eq_true rfl⟩ (fun H locs hP hD hS => ?_)
                refine W.eq (g2 := F0 m 110 ls [.int r60]) rfl ?_
                obtain ⟨g67, hf⟩ := gd_inv hf
                have h1 := Option.some.inj hf
                subst h1
                rw [hQ]
                exact W.zret (v := r60) (ty := .boolean) hx hb hr (zok_n g67) (fun t ht hW => qEnd hP hS ht) hS.2.2 dX6_takesClause_110
              · have hf := if_n c59 hf
                by_cases c68 : r1 = 2
                · have hf := if_p c68 hf
                  refine lv_tableIn (off := 42) (tgt := 111) hx hb dX6_takesClause_69 (by rw [c68]; decide) (by rw [c68]; decide) (by rw [c68]; decide) (by decide) ?_
                  refine lv_aload_n hx hb dX6_takesClause_111 rfl (lv_at hl 2 rfl) ?_
                  obtain ⟨⟨r69, o70, o71, o72, o73, o74⟩, hc75, hf⟩ := bd_inv hf
                  refine xcV (As := []) (rest := []) (ws' := [(ma, .inr (6, [.int mst, .int mwy, .int mmk, .int mwt, .ref m1, .ref m2, .ref m3, .ref m4, .int mun, .ref m5, .ref m6, .int mln, .int o71, .int o72, .int mrs, .int o73, .int mcl, .int mdo, .int o74, .ref m7, .ref m8, .ref m9, .ref m10])), (m1, .inl (cI, 24, .inl mvl)), (m2, .inl (cI, 96, .inl o70)), (m3, .inl (cI, 168, .inl mw)), (m4, .inl (cF, 288, .inr (.inr (.inl mf)))), (m5, .inl (cZ, 2, .inl mik)), (m6, .inl (cI, 200, .inl mtx)), (m7, .inl (cI, 56, .inl mwd)), (m8, .inl (cI, 3, .inl msz)), (m9, .inl (cI, 3, .inl mso)), (m10, .inl (cI, 24, .inl mpl))]) ⟨hx, hb, hml, hown, hts⟩ (c_X6_takesWay l D B adK adV cC cF cI cZ cM cS ma mst mwy mmk mwt m1 m2 m3 m4 mun m5 m6 mln o50 o51 mrs mrw mcl mdo mnu m7 m8 m9 m10 mvl mof mw mf mik mtx mwd msz mso mpl  (r69, o70, o71, o72, o73, o74) hc75) (cwV 0 hts gX6_takesClause_X6_takesWay rfl rfl rfl (by decide +kernel) ⟨Nat.le_of_ble_eq_true rfl, Nat.le_of_ble_eq_true rfl⟩) (va_recv hK hP (ci := 6) (q0 := 0) rfl rfl) hK hP hD hS hB hE [0, 1, 2, 3, 4, 5, 6, 7, 8, 9, 10] rfl rfl rfl rfl rfl hl.1 rfl (Nat.le_of_ble_eq_true rfl) dX6_takesClause_112 ⟨Nat.le_of_ble_eq_true rfl, Nat.le_of_ble_eq_true rfl⟩ (fun H locs hP hD hS => ?_)
                  refine W.eq (g2 := F0 m 115 ls [.int r69]) rfl ?_
                  obtain ⟨g76, hf⟩ := gd_inv hf
                  have h1 := Option.some.inj hf
                  subst h1
                  rw [hQ]
                  exact W.zret (v := r69) (ty := .boolean) hx hb hr (zok_n g76) (fun t ht hW => qEnd hP hS ht) hS.2.2 dX6_takesClause_115
                · have hf := if_n c68 hf
                  by_cases c77 : r1 = 3
                  · have hf := if_p c77 hf
                    refine lv_tableIn (off := 47) (tgt := 116) hx hb dX6_takesClause_69 (by rw [c77]; decide) (by rw [c77]; decide) (by rw [c77]; decide) (by decide) ?_
                    refine lv_aload_n hx hb dX6_takesClause_116 rfl (lv_at hl 2 rfl) ?_
                    refine va_get (D := D) (ci := 6) (v := .int mdo) (C := RX6) (T := TX6) (N := 23) hx hb hts w0 hown hK hP 0 rfl rfl 17 (by decide) w1 (fun _ h9 => h9) rfl dX6_takesClause_117 ?_
                    refine lv_if_eq (tgt := 141) hx hb dX6_takesClause_120 (by decide) (fun c78 => ?_) (fun c78 => ?_)
                    · have hf := if_p c78 hf
                      refine lv_iconst (v := 1) hx hb dX6_takesClause_141 (by decide) ?_
                      have h1 := Option.some.inj hf
                      subst h1
                      rw [hQ]
                      exact W.zret (v := 1) (ty := .boolean) hx hb hr rfl (fun t ht hW => qEnd hP hS ht) hS.2.2 dX6_takesClause_142
                    · have hf := if_n c78 hf
                      refine lv_aload_n hx hb dX6_takesClause_123 rfl (lv_at hl 2 rfl) ?_
                      refine va_get (D := D) (ci := 6) (v := .ref m2) (C := RX6) (T := TX6) (N := 23) hx hb hts w0 hown hK hP 0 rfl rfl 5 (by decide) w2 (fun _ h9 => h9) rfl dX6_takesClause_124 ?_
                      refine lv_bipush (v := 8) hx hb dX6_takesClause_127 (by decide) ?_
                      refine lv_aload_n hx hb dX6_takesClause_129 rfl (lv_at hl 2 rfl) ?_
                      refine va_get (D := D) (ci := 6) (v := .int mrw) (C := RX6) (T := TX6) (N := 23) hx hb hts w0 hown hK hP 0 rfl rfl 15 (by decide) w3 (fun _ h9 => h9) rfl dX6_takesClause_130 ?_
                      refine lv_imul hx hb dX6_takesClause_133 ?_
                      refine lv_bipush (v := 8) hx hb dX6_takesClause_134 (by decide) ?_
                      refine lv_isub hx hb dX6_takesClause_136 ?_
                      refine lv_iconst (v := 3) hx hb dX6_takesClause_137 (by decide) ?_
                      refine lv_iadd hx hb dX6_takesClause_138 ?_
                      refine lv_iconst (v := 1) hx hb dX6_takesClause_139 (by decide) ?_
                      obtain ⟨g79, hf⟩ := gd_inv hf
                      refine va_iast hx hb hK hP hD hS 2 2 rfl rfl g79 dX6_takesClause_140 (fun H locs hP hD hS => ?_)
                      have hP : va_P D vwCl [(ma, .inr (6, [.int mst, .int mwy, .int mmk, .int mwt, .ref m1, .ref m2, .ref m3, .ref m4, .int mun, .ref m5, .ref m6, .int mln, .int o50, .int o51, .int mrs, .int mrw, .int mcl, .int mdo, .int mnu, .ref m7, .ref m8, .ref m9, .ref m10])), (m1, .inl (cI, 24, .inl mvl)), (m2, .inl (cI, 96, .inl (upd mof (((((8 : Int32) * mrw) - 8) + 3).toNatClampNeg) 1))), (m3, .inl (cI, 168, .inl mw)), (m4, .inl (cF, 288, .inr (.inr (.inl mf)))), (m5, .inl (cZ, 2, .inl mik)), (m6, .inl (cI, 200, .inl mtx)), (m7, .inl (cI, 56, .inl mwd)), (m8, .inl (cI, 3, .inl msz)), (m9, .inl (cI, 3, .inl mso)), (m10, .inl (cI, 24, .inl mpl))] H := hP
                      have hD : va_D A [(ma, .inr (6, [.int mst, .int mwy, .int mmk, .int mwt, .ref m1, .ref m2, .ref m3, .ref m4, .int mun, .ref m5, .ref m6, .int mln, .int o50, .int o51, .int mrs, .int mrw, .int mcl, .int mdo, .int mnu, .ref m7, .ref m8, .ref m9, .ref m10])), (m1, .inl (cI, 24, .inl mvl)), (m2, .inl (cI, 96, .inl (upd mof (((((8 : Int32) * mrw) - 8) + 3).toNatClampNeg) 1))), (m3, .inl (cI, 168, .inl mw)), (m4, .inl (cF, 288, .inr (.inr (.inl mf)))), (m5, .inl (cZ, 2, .inl mik)), (m6, .inl (cI, 200, .inl mtx)), (m7, .inl (cI, 56, .inl mwd)), (m8, .inl (cI, 3, .inl msz)), (m9, .inl (cI, 3, .inl mso)), (m10, .inl (cI, 24, .inl mpl))] := hD
                      refine lv_iconst (v := 1) hx hb dX6_takesClause_141 (by decide) ?_
                      have h1 := Option.some.inj hf
                      subst h1
                      rw [hQ]
                      exact W.zret (v := 1) (ty := .boolean) hx hb hr rfl (fun t ht hW => qEnd hP hS ht) hS.2.2 dX6_takesClause_142
                  · have hf := if_n c77 hf
                    refine lv_tableOut (tgt := 143) hx hb dX6_takesClause_69 (by have h0 := lv_neT c53 (a := 0) rfl; have h1 := lv_neT c59 (a := 1) rfl; have h2 := lv_neT c68 (a := 2) rfl; have h3 := lv_neT c77 (a := 3) rfl; omega) (by decide) ?_
                    refine lv_aload_n hx hb dX6_takesClause_143 rfl (lv_at hl 2 rfl) ?_
                    obtain ⟨⟨r80, o81, o82, o83, o84, o85⟩, hc86, hf⟩ := bd_inv hf
                    refine xcV (As := []) (rest := []) (ws' := [(ma, .inr (6, [.int mst, .int mwy, .int o81, .int o82, .ref m1, .ref m2, .ref m3, .ref m4, .int mun, .ref m5, .ref m6, .int mln, .int o83, .int o84, .int mrs, .int mrw, .int mcl, .int mdo, .int o85, .ref m7, .ref m8, .ref m9, .ref m10])), (m1, .inl (cI, 24, .inl mvl)), (m2, .inl (cI, 96, .inl mof)), (m3, .inl (cI, 168, .inl mw)), (m4, .inl (cF, 288, .inr (.inr (.inl mf)))), (m5, .inl (cZ, 2, .inl mik)), (m6, .inl (cI, 200, .inl mtx)), (m7, .inl (cI, 56, .inl mwd)), (m8, .inl (cI, 3, .inl msz)), (m9, .inl (cI, 3, .inl mso)), (m10, .inl (cI, 24, .inl mpl))]) ⟨hx, hb, hml, hown, hts⟩ (c_X6_takesMask l D B adK adV cC cF cI cZ cM cS ma mst mwy mmk mwt m1 m2 m3 m4 mun m5 m6 mln o50 o51 mrs mrw mcl mdo mnu m7 m8 m9 m10 mvl mof mw mf mik mtx mwd msz mso mpl  (r80, o81, o82, o83, o84, o85) hc86) (cwV 0 hts gX6_takesClause_X6_takesMask rfl rfl rfl (by decide +kernel) ⟨Nat.le_of_ble_eq_true rfl, Nat.le_of_ble_eq_true rfl⟩) (va_recv hK hP (ci := 6) (q0 := 0) rfl rfl) hK hP hD hS hB hE [0, 1, 2, 3, 4, 5, 6, 7, 8, 9, 10] rfl rfl rfl rfl rfl hl.1 rfl (Nat.le_of_ble_eq_true rfl) dX6_takesClause_144 ⟨Nat.le_of_ble_eq_true rfl, Nat.le_of_ble_eq_true rfl⟩ (fun H locs hP hD hS => ?_)
                    refine W.eq (g2 := F0 m 147 ls [.int r80]) rfl ?_
                    obtain ⟨g87, hf⟩ := gd_inv hf
                    have h1 := Option.some.inj hf
                    subst h1
                    rw [hQ]
                    exact W.zret (v := r80) (ty := .boolean) hx hb hr (zok_n g87) (fun t ht hW => qEnd hP hS ht) hS.2.2 dX6_takesClause_147
      · have hf := if_p c6 hf
        refine lv_aload_n hx hb dX6_takesClause_31 rfl (lv_at hl 1 rfl) ?_
        refine va_get (D := D) (ci := 6) (v := .int mrw) (C := RX6) (T := TX6) (N := 23) hx hb hts w0 hown hK hP 0 rfl rfl 15 (by decide) w3 (fun _ h9 => h9) rfl dX6_takesClause_32 ?_
        refine lv_bipush (v := 12) hx hb dX6_takesClause_35 (by decide) ?_
        refine lv_icmp_ge (tgt := 56) hx hb dX6_takesClause_37 (by decide) (fun c88 => ?_) (fun c88 => ?_)
        · have hf := if_p c88 hf
          refine lv_iconst (v := 0) hx hb dX6_takesClause_56 (by decide) ?_
          refine lv_istore_n (lv' := [(2, .int 0), (1, .int r1), (0, .ref ma)]) hx hb dX6_takesClause_57 rfl hl (by decide) rfl (fun ls hl => ?_)
          refine lv_iload_n hx hb dX6_takesClause_58 rfl (lv_at hl 0 rfl) ?_
          refine lv_if_ne (tgt := 64) hx hb dX6_takesClause_59 (by decide) (fun c89 => absurd c89 (by decide)) (fun c89 => ?_)
          refine lv_iconst (v := 0) hx hb dX6_takesClause_62 (by decide) ?_
          have h1 := Option.some.inj hf
          subst h1
          rw [hQ]
          exact W.zret (v := 0) (ty := .boolean) hx hb hr rfl (fun t ht hW => qEnd hP hS ht) hS.2.2 dX6_takesClause_63
        · have hf := if_n c88 hf
          refine lv_iload_n hx hb dX6_takesClause_40 rfl (lv_at hl 0 rfl) ?_
          refine lv_iconst (v := 3) hx hb dX6_takesClause_41 (by decide) ?_
          refine lv_icmp_ne (tgt := 52) hx hb dX6_takesClause_42 (by decide) (fun c90 => ?_) (fun c90 => absurd (c6.symm.trans c90) (by decide))
          refine lv_iconst (v := 1) hx hb dX6_takesClause_52 (by decide) ?_
          refine lv_goto (tgt := 57) hx hb dX6_takesClause_53 (by decide) ?_
          refine lv_istore_n (lv' := [(2, .int 1), (1, .int r1), (0, .ref ma)]) hx hb dX6_takesClause_57 rfl hl (by decide) rfl (fun ls hl => ?_)
          refine lv_iload_n hx hb dX6_takesClause_58 rfl (lv_at hl 0 rfl) ?_
          refine lv_if_ne (tgt := 64) hx hb dX6_takesClause_59 (by decide) (fun c91 => ?_) (fun c91 => absurd c91 (by decide))
          refine lv_aload_n hx hb dX6_takesClause_64 rfl (lv_at hl 2 rfl) ?_
          obtain ⟨⟨o92, o93⟩, hc94, hf⟩ := bd_inv hf
          refine xcV (As := []) (rest := []) (ws' := [(ma, .inr (6, [.int mst, .int mwy, .int mmk, .int mwt, .ref m1, .ref m2, .ref m3, .ref m4, .int mun, .ref m5, .ref m6, .int mln, .int o92, .int o93, .int mrs, .int mrw, .int mcl, .int mdo, .int mnu, .ref m7, .ref m8, .ref m9, .ref m10])), (m1, .inl (cI, 24, .inl mvl)), (m2, .inl (cI, 96, .inl mof)), (m3, .inl (cI, 168, .inl mw)), (m4, .inl (cF, 288, .inr (.inr (.inl mf)))), (m5, .inl (cZ, 2, .inl mik)), (m6, .inl (cI, 200, .inl mtx)), (m7, .inl (cI, 56, .inl mwd)), (m8, .inl (cI, 3, .inl msz)), (m9, .inl (cI, 3, .inl mso)), (m10, .inl (cI, 24, .inl mpl))]) ⟨hx, hb, hml, hown, hts⟩ (c_X6_nextToken l D B adK adV cC cF cI cZ cM cS ma mst mwy mmk mwt m1 m2 m3 m4 mun m5 m6 mln mfi mbe mrs mrw mcl mdo mnu m7 m8 m9 m10 mvl mof mw mf mik mtx mwd msz mso mpl  (o92, o93) hc94) (cwV 0 hts gX6_takesClause_X6_nextToken rfl rfl rfl (by decide +kernel) ⟨Nat.le_of_ble_eq_true rfl, Nat.le_of_ble_eq_true rfl⟩) (va_recv hK hP (ci := 6) (q0 := 0) rfl rfl) hK hP hD hS hB hE [0, 1, 2, 3, 4, 5, 6, 7, 8, 9, 10] rfl rfl rfl rfl rfl hl.1 rfl (Nat.le_of_ble_eq_true rfl) dX6_takesClause_65 ⟨Nat.le_of_ble_eq_true rfl, Nat.le_of_ble_eq_true rfl⟩ (fun H locs hP hD hS => ?_)
          refine W.eq (g2 := F0 m 68 ls []) rfl ?_
          refine lv_iload_n hx hb dX6_takesClause_68 rfl (lv_at hl 1 rfl) ?_
          by_cases c95 : r1 = 0
          · have hf := if_p c95 hf
            refine lv_tableIn (off := 31) (tgt := 100) hx hb dX6_takesClause_69 (by rw [c95]; decide) (by rw [c95]; decide) (by rw [c95]; decide) (by decide) ?_
            refine lv_aload_n hx hb dX6_takesClause_100 rfl (lv_at hl 2 rfl) ?_
            obtain ⟨⟨o96, o97, o98, o99⟩, hc100, hf⟩ := bd_inv hf
            refine xcV (As := []) (rest := []) (ws' := [(ma, .inr (6, [.int mst, .int mwy, .int o96, .int o97, .ref m1, .ref m2, .ref m3, .ref m4, .int mun, .ref m5, .ref m6, .int mln, .int o92, .int o93, .int o98, .int o99, .int mcl, .int mdo, .int mnu, .ref m7, .ref m8, .ref m9, .ref m10])), (m1, .inl (cI, 24, .inl mvl)), (m2, .inl (cI, 96, .inl mof)), (m3, .inl (cI, 168, .inl mw)), (m4, .inl (cF, 288, .inr (.inr (.inl mf)))), (m5, .inl (cZ, 2, .inl mik)), (m6, .inl (cI, 200, .inl mtx)), (m7, .inl (cI, 56, .inl mwd)), (m8, .inl (cI, 3, .inl msz)), (m9, .inl (cI, 3, .inl mso)), (m10, .inl (cI, 24, .inl mpl))]) ⟨hx, hb, hml, hown, hts⟩ (c_X6_clears l D B adK adV cC cF cI cZ cM cS ma mst mwy mmk mwt m1 m2 m3 m4 mun m5 m6 mln o92 o93 mrs mrw mcl mdo mnu m7 m8 m9 m10 mvl mof mw mf mik mtx mwd msz mso mpl  (o96, o97, o98, o99) hc100) (cwV 0 hts gX6_takesClause_X6_clears rfl rfl rfl (by decide +kernel) ⟨Nat.le_of_ble_eq_true rfl, Nat.le_of_ble_eq_true rfl⟩) (va_recv hK hP (ci := 6) (q0 := 0) rfl rfl) hK hP hD hS hB hE [0, 1, 2, 3, 4, 5, 6, 7, 8, 9, 10] rfl rfl rfl rfl rfl hl.1 rfl (Nat.le_of_ble_eq_true rfl) dX6_takesClause_101 ⟨Nat.le_of_ble_eq_true rfl, Nat.le_of_ble_eq_true rfl⟩ (fun H locs hP hD hS => ?_)
            refine W.eq (g2 := F0 m 104 ls []) rfl ?_
            refine lv_iconst (v := 1) hx hb dX6_takesClause_104 (by decide) ?_
            have h1 := Option.some.inj hf
            subst h1
            rw [hQ]
            exact W.zret (v := 1) (ty := .boolean) hx hb hr rfl (fun t ht hW => qEnd hP hS ht) hS.2.2 dX6_takesClause_105
          · have hf := if_n c95 hf
            by_cases c101 : r1 = 1
            · have hf := if_p c101 hf
              refine lv_tableIn (off := 37) (tgt := 106) hx hb dX6_takesClause_69 (by rw [c101]; decide) (by rw [c101]; decide) (by rw [c101]; decide) (by decide) ?_
              refine lv_aload_n hx hb dX6_takesClause_106 rfl (lv_at hl 2 rfl) ?_
              obtain ⟨⟨r102, o103, o104, o105, o106, o107⟩, hc108, hf⟩ := bd_inv hf
              refine xcV (As := []) (rest := []) (ws' := [(ma, .inr (6, [.int mst, .int mwy, .int mmk, .int mwt, .ref m1, .ref m2, .ref m3, .ref m4, .int mun, .ref m5, .ref m6, .int mln, .int o104, .int o105, .int o106, .int mrw, .int mcl, .int mdo, .int o107, .ref m7, .ref m8, .ref m9, .ref m10])), (m1, .inl (cI, 24, .inl o103)), (m2, .inl (cI, 96, .inl mof)), (m3, .inl (cI, 168, .inl mw)), (m4, .inl (cF, 288, .inr (.inr (.inl mf)))), (m5, .inl (cZ, 2, .inl mik)), (m6, .inl (cI, 200, .inl mtx)), (m7, .inl (cI, 56, .inl mwd)), (m8, .inl (cI, 3, .inl msz)), (m9, .inl (cI, 3, .inl mso)), (m10, .inl (cI, 24, .inl mpl))]) ⟨hx, hb, hml, hown, hts⟩ (c_X6_takesState l D B adK adV cC cF cI cZ cM cS ma mst mwy mmk mwt m1 m2 m3 m4 mun m5 m6 mln o92 o93 mrs mrw mcl mdo mnu m7 m8 m9 m10 mvl mof mw mf mik mtx mwd msz mso mpl  (r102, o103, o104, o105, o106, o107) hc108) (cwV 0 hts gX6_takesClause_X6_takesState rfl rfl rfl (by decide +kernel) ⟨Nat.le_of_ble_eq_true rfl, Nat.le_of_ble_eq_true rfl⟩) (va_recv hK hP (ci := 6) (q0 := 0) rfl rfl) hK hP hD hS hB hE [0, 1, 2, 3, 4, 5, 6, 7, 8, 9, 10] rfl rfl rfl rfl rfl hl.1 rfl (Nat.le_of_ble_eq_true rfl) dX6_takesClause_107 ⟨Nat.le_of_ble_eq_true rfl, Nat.le_of_ble_eq_true rfl⟩ (fun H locs hP hD hS => ?_)
              refine W.eq (g2 := F0 m 110 ls [.int r102]) rfl ?_
              obtain ⟨g109, hf⟩ := gd_inv hf
              have h1 := Option.some.inj hf
              subst h1
              rw [hQ]
              exact W.zret (v := r102) (ty := .boolean) hx hb hr (zok_n g109) (fun t ht hW => qEnd hP hS ht) hS.2.2 dX6_takesClause_110
            · have hf := if_n c101 hf
              by_cases c110 : r1 = 2
              · have hf := if_p c110 hf
                refine lv_tableIn (off := 42) (tgt := 111) hx hb dX6_takesClause_69 (by rw [c110]; decide) (by rw [c110]; decide) (by rw [c110]; decide) (by decide) ?_
                refine lv_aload_n hx hb dX6_takesClause_111 rfl (lv_at hl 2 rfl) ?_
                obtain ⟨⟨r111, o112, o113, o114, o115, o116⟩, hc117, hf⟩ := bd_inv hf
                refine xcV (As := []) (rest := []) (ws' := [(ma, .inr (6, [.int mst, .int mwy, .int mmk, .int mwt, .ref m1, .ref m2, .ref m3, .ref m4, .int mun, .ref m5, .ref m6, .int mln, .int o113, .int o114, .int mrs, .int o115, .int mcl, .int mdo, .int o116, .ref m7, .ref m8, .ref m9, .ref m10])), (m1, .inl (cI, 24, .inl mvl)), (m2, .inl (cI, 96, .inl o112)), (m3, .inl (cI, 168, .inl mw)), (m4, .inl (cF, 288, .inr (.inr (.inl mf)))), (m5, .inl (cZ, 2, .inl mik)), (m6, .inl (cI, 200, .inl mtx)), (m7, .inl (cI, 56, .inl mwd)), (m8, .inl (cI, 3, .inl msz)), (m9, .inl (cI, 3, .inl mso)), (m10, .inl (cI, 24, .inl mpl))]) ⟨hx, hb, hml, hown, hts⟩ (c_X6_takesWay l D B adK adV cC cF cI cZ cM cS ma mst mwy mmk mwt m1 m2 m3 m4 mun m5 m6 mln o92 o93 mrs mrw mcl mdo mnu m7 m8 m9 m10 mvl mof mw mf mik mtx mwd msz mso mpl  (r111, o112, o113, o114, o115, o116) hc117) (cwV 0 hts gX6_takesClause_X6_takesWay rfl rfl rfl (by decide +kernel) ⟨Nat.le_of_ble_eq_true rfl, Nat.le_of_ble_eq_true rfl⟩) (va_recv hK hP (ci := 6) (q0 := 0) rfl rfl) hK hP hD hS hB hE [0, 1, 2, 3, 4, 5, 6, 7, 8, 9, 10] rfl rfl rfl rfl rfl hl.1 rfl (Nat.le_of_ble_eq_true rfl) dX6_takesClause_112 ⟨Nat.le_of_ble_eq_true rfl, Nat.le_of_ble_eq_true rfl⟩ (fun H locs hP hD hS => ?_)
                refine W.eq (g2 := F0 m 115 ls [.int r111]) rfl ?_
                obtain ⟨g118, hf⟩ := gd_inv hf
                have h1 := Option.some.inj hf
                subst h1
                rw [hQ]
                exact W.zret (v := r111) (ty := .boolean) hx hb hr (zok_n g118) (fun t ht hW => qEnd hP hS ht) hS.2.2 dX6_takesClause_115
              · have hf := if_n c110 hf
                by_cases c119 : r1 = 3
                · have hf := if_p c119 hf
                  refine lv_tableIn (off := 47) (tgt := 116) hx hb dX6_takesClause_69 (by rw [c119]; decide) (by rw [c119]; decide) (by rw [c119]; decide) (by decide) ?_
                  refine lv_aload_n hx hb dX6_takesClause_116 rfl (lv_at hl 2 rfl) ?_
                  refine va_get (D := D) (ci := 6) (v := .int mdo) (C := RX6) (T := TX6) (N := 23) hx hb hts w0 hown hK hP 0 rfl rfl 17 (by decide) w1 (fun _ h9 => h9) rfl dX6_takesClause_117 ?_
                  refine lv_if_eq (tgt := 141) hx hb dX6_takesClause_120 (by decide) (fun c120 => ?_) (fun c120 => ?_)
                  · have hf := if_p c120 hf
                    refine lv_iconst (v := 1) hx hb dX6_takesClause_141 (by decide) ?_
                    have h1 := Option.some.inj hf
                    subst h1
                    rw [hQ]
                    exact W.zret (v := 1) (ty := .boolean) hx hb hr rfl (fun t ht hW => qEnd hP hS ht) hS.2.2 dX6_takesClause_142
                  · have hf := if_n c120 hf
                    refine lv_aload_n hx hb dX6_takesClause_123 rfl (lv_at hl 2 rfl) ?_
                    refine va_get (D := D) (ci := 6) (v := .ref m2) (C := RX6) (T := TX6) (N := 23) hx hb hts w0 hown hK hP 0 rfl rfl 5 (by decide) w2 (fun _ h9 => h9) rfl dX6_takesClause_124 ?_
                    refine lv_bipush (v := 8) hx hb dX6_takesClause_127 (by decide) ?_
                    refine lv_aload_n hx hb dX6_takesClause_129 rfl (lv_at hl 2 rfl) ?_
                    refine va_get (D := D) (ci := 6) (v := .int mrw) (C := RX6) (T := TX6) (N := 23) hx hb hts w0 hown hK hP 0 rfl rfl 15 (by decide) w3 (fun _ h9 => h9) rfl dX6_takesClause_130 ?_
                    refine lv_imul hx hb dX6_takesClause_133 ?_
                    refine lv_bipush (v := 8) hx hb dX6_takesClause_134 (by decide) ?_
                    refine lv_isub hx hb dX6_takesClause_136 ?_
                    refine lv_iconst (v := 3) hx hb dX6_takesClause_137 (by decide) ?_
                    refine lv_iadd hx hb dX6_takesClause_138 ?_
                    refine lv_iconst (v := 1) hx hb dX6_takesClause_139 (by decide) ?_
                    obtain ⟨g121, hf⟩ := gd_inv hf
                    refine va_iast hx hb hK hP hD hS 2 2 rfl rfl g121 dX6_takesClause_140 (fun H locs hP hD hS => ?_)
                    have hP : va_P D vwCl [(ma, .inr (6, [.int mst, .int mwy, .int mmk, .int mwt, .ref m1, .ref m2, .ref m3, .ref m4, .int mun, .ref m5, .ref m6, .int mln, .int o92, .int o93, .int mrs, .int mrw, .int mcl, .int mdo, .int mnu, .ref m7, .ref m8, .ref m9, .ref m10])), (m1, .inl (cI, 24, .inl mvl)), (m2, .inl (cI, 96, .inl (upd mof (((((8 : Int32) * mrw) - 8) + 3).toNatClampNeg) 1))), (m3, .inl (cI, 168, .inl mw)), (m4, .inl (cF, 288, .inr (.inr (.inl mf)))), (m5, .inl (cZ, 2, .inl mik)), (m6, .inl (cI, 200, .inl mtx)), (m7, .inl (cI, 56, .inl mwd)), (m8, .inl (cI, 3, .inl msz)), (m9, .inl (cI, 3, .inl mso)), (m10, .inl (cI, 24, .inl mpl))] H := hP
                    have hD : va_D A [(ma, .inr (6, [.int mst, .int mwy, .int mmk, .int mwt, .ref m1, .ref m2, .ref m3, .ref m4, .int mun, .ref m5, .ref m6, .int mln, .int o92, .int o93, .int mrs, .int mrw, .int mcl, .int mdo, .int mnu, .ref m7, .ref m8, .ref m9, .ref m10])), (m1, .inl (cI, 24, .inl mvl)), (m2, .inl (cI, 96, .inl (upd mof (((((8 : Int32) * mrw) - 8) + 3).toNatClampNeg) 1))), (m3, .inl (cI, 168, .inl mw)), (m4, .inl (cF, 288, .inr (.inr (.inl mf)))), (m5, .inl (cZ, 2, .inl mik)), (m6, .inl (cI, 200, .inl mtx)), (m7, .inl (cI, 56, .inl mwd)), (m8, .inl (cI, 3, .inl msz)), (m9, .inl (cI, 3, .inl mso)), (m10, .inl (cI, 24, .inl mpl))] := hD
                    refine lv_iconst (v := 1) hx hb dX6_takesClause_141 (by decide) ?_
                    have h1 := Option.some.inj hf
                    subst h1
                    rw [hQ]
                    exact W.zret (v := 1) (ty := .boolean) hx hb hr rfl (fun t ht hW => qEnd hP hS ht) hS.2.2 dX6_takesClause_142
                · have hf := if_n c119 hf
                  refine lv_tableOut (tgt := 143) hx hb dX6_takesClause_69 (by have h0 := lv_neT c95 (a := 0) rfl; have h1 := lv_neT c101 (a := 1) rfl; have h2 := lv_neT c110 (a := 2) rfl; have h3 := lv_neT c119 (a := 3) rfl; omega) (by decide) ?_
                  refine lv_aload_n hx hb dX6_takesClause_143 rfl (lv_at hl 2 rfl) ?_
                  obtain ⟨⟨r122, o123, o124, o125, o126, o127⟩, hc128, hf⟩ := bd_inv hf
                  refine xcV (As := []) (rest := []) (ws' := [(ma, .inr (6, [.int mst, .int mwy, .int o123, .int o124, .ref m1, .ref m2, .ref m3, .ref m4, .int mun, .ref m5, .ref m6, .int mln, .int o125, .int o126, .int mrs, .int mrw, .int mcl, .int mdo, .int o127, .ref m7, .ref m8, .ref m9, .ref m10])), (m1, .inl (cI, 24, .inl mvl)), (m2, .inl (cI, 96, .inl mof)), (m3, .inl (cI, 168, .inl mw)), (m4, .inl (cF, 288, .inr (.inr (.inl mf)))), (m5, .inl (cZ, 2, .inl mik)), (m6, .inl (cI, 200, .inl mtx)), (m7, .inl (cI, 56, .inl mwd)), (m8, .inl (cI, 3, .inl msz)), (m9, .inl (cI, 3, .inl mso)), (m10, .inl (cI, 24, .inl mpl))]) ⟨hx, hb, hml, hown, hts⟩ (c_X6_takesMask l D B adK adV cC cF cI cZ cM cS ma mst mwy mmk mwt m1 m2 m3 m4 mun m5 m6 mln o92 o93 mrs mrw mcl mdo mnu m7 m8 m9 m10 mvl mof mw mf mik mtx mwd msz mso mpl  (r122, o123, o124, o125, o126, o127) hc128) (cwV 0 hts gX6_takesClause_X6_takesMask rfl rfl rfl (by decide +kernel) ⟨Nat.le_of_ble_eq_true rfl, Nat.le_of_ble_eq_true rfl⟩) (va_recv hK hP (ci := 6) (q0 := 0) rfl rfl) hK hP hD hS hB hE [0, 1, 2, 3, 4, 5, 6, 7, 8, 9, 10] rfl rfl rfl rfl rfl hl.1 rfl (Nat.le_of_ble_eq_true rfl) dX6_takesClause_144 ⟨Nat.le_of_ble_eq_true rfl, Nat.le_of_ble_eq_true rfl⟩ (fun H locs hP hD hS => ?_)
                  refine W.eq (g2 := F0 m 147 ls [.int r122]) rfl ?_
                  obtain ⟨g129, hf⟩ := gd_inv hf
                  have h1 := Option.some.inj hf
                  subst h1
                  rw [hQ]
                  exact W.zret (v := r122) (ty := .boolean) hx hb hr (zok_n g129) (fun t ht hW => qEnd hP hS ht) hS.2.2 dX6_takesClause_147
    · have hf := if_p c5 hf
      refine lv_aload_n hx hb dX6_takesClause_17 rfl (lv_at hl 1 rfl) ?_
      refine va_get (D := D) (ci := 6) (v := .int mrs) (C := RX6) (T := TX6) (N := 23) hx hb hts w0 hown hK hP 0 rfl rfl 14 (by decide) w4 (fun _ h9 => h9) rfl dX6_takesClause_18 ?_
      refine lv_bipush (v := 6) hx hb dX6_takesClause_21 (by decide) ?_
      refine lv_icmp_ge (tgt := 56) hx hb dX6_takesClause_23 (by decide) (fun c130 => ?_) (fun c130 => ?_)
      · have hf := if_p c130 hf
        refine lv_iconst (v := 0) hx hb dX6_takesClause_56 (by decide) ?_
        refine lv_istore_n (lv' := [(2, .int 0), (1, .int r1), (0, .ref ma)]) hx hb dX6_takesClause_57 rfl hl (by decide) rfl (fun ls hl => ?_)
        refine lv_iload_n hx hb dX6_takesClause_58 rfl (lv_at hl 0 rfl) ?_
        refine lv_if_ne (tgt := 64) hx hb dX6_takesClause_59 (by decide) (fun c131 => absurd c131 (by decide)) (fun c131 => ?_)
        refine lv_iconst (v := 0) hx hb dX6_takesClause_62 (by decide) ?_
        have h1 := Option.some.inj hf
        subst h1
        rw [hQ]
        exact W.zret (v := 0) (ty := .boolean) hx hb hr rfl (fun t ht hW => qEnd hP hS ht) hS.2.2 dX6_takesClause_63
      · have hf := if_n c130 hf
        refine lv_iload_n hx hb dX6_takesClause_26 rfl (lv_at hl 0 rfl) ?_
        refine lv_iconst (v := 2) hx hb dX6_takesClause_27 (by decide) ?_
        refine lv_icmp_ne (tgt := 40) hx hb dX6_takesClause_28 (by decide) (fun c132 => ?_) (fun c132 => absurd (c5.symm.trans c132) (by decide))
        refine lv_iload_n hx hb dX6_takesClause_40 rfl (lv_at hl 0 rfl) ?_
        refine lv_iconst (v := 3) hx hb dX6_takesClause_41 (by decide) ?_
        refine lv_icmp_ne (tgt := 52) hx hb dX6_takesClause_42 (by decide) (fun c133 => ?_) (fun c133 => absurd (c5.symm.trans c133) (by decide))
        refine lv_iconst (v := 1) hx hb dX6_takesClause_52 (by decide) ?_
        refine lv_goto (tgt := 57) hx hb dX6_takesClause_53 (by decide) ?_
        refine lv_istore_n (lv' := [(2, .int 1), (1, .int r1), (0, .ref ma)]) hx hb dX6_takesClause_57 rfl hl (by decide) rfl (fun ls hl => ?_)
        refine lv_iload_n hx hb dX6_takesClause_58 rfl (lv_at hl 0 rfl) ?_
        refine lv_if_ne (tgt := 64) hx hb dX6_takesClause_59 (by decide) (fun c134 => ?_) (fun c134 => absurd c134 (by decide))
        refine lv_aload_n hx hb dX6_takesClause_64 rfl (lv_at hl 2 rfl) ?_
        obtain ⟨⟨o135, o136⟩, hc137, hf⟩ := bd_inv hf
        refine xcV (As := []) (rest := []) (ws' := [(ma, .inr (6, [.int mst, .int mwy, .int mmk, .int mwt, .ref m1, .ref m2, .ref m3, .ref m4, .int mun, .ref m5, .ref m6, .int mln, .int o135, .int o136, .int mrs, .int mrw, .int mcl, .int mdo, .int mnu, .ref m7, .ref m8, .ref m9, .ref m10])), (m1, .inl (cI, 24, .inl mvl)), (m2, .inl (cI, 96, .inl mof)), (m3, .inl (cI, 168, .inl mw)), (m4, .inl (cF, 288, .inr (.inr (.inl mf)))), (m5, .inl (cZ, 2, .inl mik)), (m6, .inl (cI, 200, .inl mtx)), (m7, .inl (cI, 56, .inl mwd)), (m8, .inl (cI, 3, .inl msz)), (m9, .inl (cI, 3, .inl mso)), (m10, .inl (cI, 24, .inl mpl))]) ⟨hx, hb, hml, hown, hts⟩ (c_X6_nextToken l D B adK adV cC cF cI cZ cM cS ma mst mwy mmk mwt m1 m2 m3 m4 mun m5 m6 mln mfi mbe mrs mrw mcl mdo mnu m7 m8 m9 m10 mvl mof mw mf mik mtx mwd msz mso mpl  (o135, o136) hc137) (cwV 0 hts gX6_takesClause_X6_nextToken rfl rfl rfl (by decide +kernel) ⟨Nat.le_of_ble_eq_true rfl, Nat.le_of_ble_eq_true rfl⟩) (va_recv hK hP (ci := 6) (q0 := 0) rfl rfl) hK hP hD hS hB hE [0, 1, 2, 3, 4, 5, 6, 7, 8, 9, 10] rfl rfl rfl rfl rfl hl.1 rfl (Nat.le_of_ble_eq_true rfl) dX6_takesClause_65 ⟨Nat.le_of_ble_eq_true rfl, Nat.le_of_ble_eq_true rfl⟩ (fun H locs hP hD hS => ?_)
        refine W.eq (g2 := F0 m 68 ls []) rfl ?_
        refine lv_iload_n hx hb dX6_takesClause_68 rfl (lv_at hl 1 rfl) ?_
        by_cases c138 : r1 = 0
        · have hf := if_p c138 hf
          refine lv_tableIn (off := 31) (tgt := 100) hx hb dX6_takesClause_69 (by rw [c138]; decide) (by rw [c138]; decide) (by rw [c138]; decide) (by decide) ?_
          refine lv_aload_n hx hb dX6_takesClause_100 rfl (lv_at hl 2 rfl) ?_
          obtain ⟨⟨o139, o140, o141, o142⟩, hc143, hf⟩ := bd_inv hf
          refine xcV (As := []) (rest := []) (ws' := [(ma, .inr (6, [.int mst, .int mwy, .int o139, .int o140, .ref m1, .ref m2, .ref m3, .ref m4, .int mun, .ref m5, .ref m6, .int mln, .int o135, .int o136, .int o141, .int o142, .int mcl, .int mdo, .int mnu, .ref m7, .ref m8, .ref m9, .ref m10])), (m1, .inl (cI, 24, .inl mvl)), (m2, .inl (cI, 96, .inl mof)), (m3, .inl (cI, 168, .inl mw)), (m4, .inl (cF, 288, .inr (.inr (.inl mf)))), (m5, .inl (cZ, 2, .inl mik)), (m6, .inl (cI, 200, .inl mtx)), (m7, .inl (cI, 56, .inl mwd)), (m8, .inl (cI, 3, .inl msz)), (m9, .inl (cI, 3, .inl mso)), (m10, .inl (cI, 24, .inl mpl))]) ⟨hx, hb, hml, hown, hts⟩ (c_X6_clears l D B adK adV cC cF cI cZ cM cS ma mst mwy mmk mwt m1 m2 m3 m4 mun m5 m6 mln o135 o136 mrs mrw mcl mdo mnu m7 m8 m9 m10 mvl mof mw mf mik mtx mwd msz mso mpl  (o139, o140, o141, o142) hc143) (cwV 0 hts gX6_takesClause_X6_clears rfl rfl rfl (by decide +kernel) ⟨Nat.le_of_ble_eq_true rfl, Nat.le_of_ble_eq_true rfl⟩) (va_recv hK hP (ci := 6) (q0 := 0) rfl rfl) hK hP hD hS hB hE [0, 1, 2, 3, 4, 5, 6, 7, 8, 9, 10] rfl rfl rfl rfl rfl hl.1 rfl (Nat.le_of_ble_eq_true rfl) dX6_takesClause_101 ⟨Nat.le_of_ble_eq_true rfl, Nat.le_of_ble_eq_true rfl⟩ (fun H locs hP hD hS => ?_)
          refine W.eq (g2 := F0 m 104 ls []) rfl ?_
          refine lv_iconst (v := 1) hx hb dX6_takesClause_104 (by decide) ?_
          have h1 := Option.some.inj hf
          subst h1
          rw [hQ]
          exact W.zret (v := 1) (ty := .boolean) hx hb hr rfl (fun t ht hW => qEnd hP hS ht) hS.2.2 dX6_takesClause_105
        · have hf := if_n c138 hf
          by_cases c144 : r1 = 1
          · have hf := if_p c144 hf
            refine lv_tableIn (off := 37) (tgt := 106) hx hb dX6_takesClause_69 (by rw [c144]; decide) (by rw [c144]; decide) (by rw [c144]; decide) (by decide) ?_
            refine lv_aload_n hx hb dX6_takesClause_106 rfl (lv_at hl 2 rfl) ?_
            obtain ⟨⟨r145, o146, o147, o148, o149, o150⟩, hc151, hf⟩ := bd_inv hf
            refine xcV (As := []) (rest := []) (ws' := [(ma, .inr (6, [.int mst, .int mwy, .int mmk, .int mwt, .ref m1, .ref m2, .ref m3, .ref m4, .int mun, .ref m5, .ref m6, .int mln, .int o147, .int o148, .int o149, .int mrw, .int mcl, .int mdo, .int o150, .ref m7, .ref m8, .ref m9, .ref m10])), (m1, .inl (cI, 24, .inl o146)), (m2, .inl (cI, 96, .inl mof)), (m3, .inl (cI, 168, .inl mw)), (m4, .inl (cF, 288, .inr (.inr (.inl mf)))), (m5, .inl (cZ, 2, .inl mik)), (m6, .inl (cI, 200, .inl mtx)), (m7, .inl (cI, 56, .inl mwd)), (m8, .inl (cI, 3, .inl msz)), (m9, .inl (cI, 3, .inl mso)), (m10, .inl (cI, 24, .inl mpl))]) ⟨hx, hb, hml, hown, hts⟩ (c_X6_takesState l D B adK adV cC cF cI cZ cM cS ma mst mwy mmk mwt m1 m2 m3 m4 mun m5 m6 mln o135 o136 mrs mrw mcl mdo mnu m7 m8 m9 m10 mvl mof mw mf mik mtx mwd msz mso mpl  (r145, o146, o147, o148, o149, o150) hc151) (cwV 0 hts gX6_takesClause_X6_takesState rfl rfl rfl (by decide +kernel) ⟨Nat.le_of_ble_eq_true rfl, Nat.le_of_ble_eq_true rfl⟩) (va_recv hK hP (ci := 6) (q0 := 0) rfl rfl) hK hP hD hS hB hE [0, 1, 2, 3, 4, 5, 6, 7, 8, 9, 10] rfl rfl rfl rfl rfl hl.1 rfl (Nat.le_of_ble_eq_true rfl) dX6_takesClause_107 ⟨Nat.le_of_ble_eq_true rfl, Nat.le_of_ble_eq_true rfl⟩ (fun H locs hP hD hS => ?_)
            refine W.eq (g2 := F0 m 110 ls [.int r145]) rfl ?_
            obtain ⟨g152, hf⟩ := gd_inv hf
            have h1 := Option.some.inj hf
            subst h1
            rw [hQ]
            exact W.zret (v := r145) (ty := .boolean) hx hb hr (zok_n g152) (fun t ht hW => qEnd hP hS ht) hS.2.2 dX6_takesClause_110
          · have hf := if_n c144 hf
            by_cases c153 : r1 = 2
            · have hf := if_p c153 hf
              refine lv_tableIn (off := 42) (tgt := 111) hx hb dX6_takesClause_69 (by rw [c153]; decide) (by rw [c153]; decide) (by rw [c153]; decide) (by decide) ?_
              refine lv_aload_n hx hb dX6_takesClause_111 rfl (lv_at hl 2 rfl) ?_
              obtain ⟨⟨r154, o155, o156, o157, o158, o159⟩, hc160, hf⟩ := bd_inv hf
              refine xcV (As := []) (rest := []) (ws' := [(ma, .inr (6, [.int mst, .int mwy, .int mmk, .int mwt, .ref m1, .ref m2, .ref m3, .ref m4, .int mun, .ref m5, .ref m6, .int mln, .int o156, .int o157, .int mrs, .int o158, .int mcl, .int mdo, .int o159, .ref m7, .ref m8, .ref m9, .ref m10])), (m1, .inl (cI, 24, .inl mvl)), (m2, .inl (cI, 96, .inl o155)), (m3, .inl (cI, 168, .inl mw)), (m4, .inl (cF, 288, .inr (.inr (.inl mf)))), (m5, .inl (cZ, 2, .inl mik)), (m6, .inl (cI, 200, .inl mtx)), (m7, .inl (cI, 56, .inl mwd)), (m8, .inl (cI, 3, .inl msz)), (m9, .inl (cI, 3, .inl mso)), (m10, .inl (cI, 24, .inl mpl))]) ⟨hx, hb, hml, hown, hts⟩ (c_X6_takesWay l D B adK adV cC cF cI cZ cM cS ma mst mwy mmk mwt m1 m2 m3 m4 mun m5 m6 mln o135 o136 mrs mrw mcl mdo mnu m7 m8 m9 m10 mvl mof mw mf mik mtx mwd msz mso mpl  (r154, o155, o156, o157, o158, o159) hc160) (cwV 0 hts gX6_takesClause_X6_takesWay rfl rfl rfl (by decide +kernel) ⟨Nat.le_of_ble_eq_true rfl, Nat.le_of_ble_eq_true rfl⟩) (va_recv hK hP (ci := 6) (q0 := 0) rfl rfl) hK hP hD hS hB hE [0, 1, 2, 3, 4, 5, 6, 7, 8, 9, 10] rfl rfl rfl rfl rfl hl.1 rfl (Nat.le_of_ble_eq_true rfl) dX6_takesClause_112 ⟨Nat.le_of_ble_eq_true rfl, Nat.le_of_ble_eq_true rfl⟩ (fun H locs hP hD hS => ?_)
              refine W.eq (g2 := F0 m 115 ls [.int r154]) rfl ?_
              obtain ⟨g161, hf⟩ := gd_inv hf
              have h1 := Option.some.inj hf
              subst h1
              rw [hQ]
              exact W.zret (v := r154) (ty := .boolean) hx hb hr (zok_n g161) (fun t ht hW => qEnd hP hS ht) hS.2.2 dX6_takesClause_115
            · have hf := if_n c153 hf
              by_cases c162 : r1 = 3
              · have hf := if_p c162 hf
                refine lv_tableIn (off := 47) (tgt := 116) hx hb dX6_takesClause_69 (by rw [c162]; decide) (by rw [c162]; decide) (by rw [c162]; decide) (by decide) ?_
                refine lv_aload_n hx hb dX6_takesClause_116 rfl (lv_at hl 2 rfl) ?_
                refine va_get (D := D) (ci := 6) (v := .int mdo) (C := RX6) (T := TX6) (N := 23) hx hb hts w0 hown hK hP 0 rfl rfl 17 (by decide) w1 (fun _ h9 => h9) rfl dX6_takesClause_117 ?_
                refine lv_if_eq (tgt := 141) hx hb dX6_takesClause_120 (by decide) (fun c163 => ?_) (fun c163 => ?_)
                · have hf := if_p c163 hf
                  refine lv_iconst (v := 1) hx hb dX6_takesClause_141 (by decide) ?_
                  have h1 := Option.some.inj hf
                  subst h1
                  rw [hQ]
                  exact W.zret (v := 1) (ty := .boolean) hx hb hr rfl (fun t ht hW => qEnd hP hS ht) hS.2.2 dX6_takesClause_142
                · have hf := if_n c163 hf
                  refine lv_aload_n hx hb dX6_takesClause_123 rfl (lv_at hl 2 rfl) ?_
                  refine va_get (D := D) (ci := 6) (v := .ref m2) (C := RX6) (T := TX6) (N := 23) hx hb hts w0 hown hK hP 0 rfl rfl 5 (by decide) w2 (fun _ h9 => h9) rfl dX6_takesClause_124 ?_
                  refine lv_bipush (v := 8) hx hb dX6_takesClause_127 (by decide) ?_
                  refine lv_aload_n hx hb dX6_takesClause_129 rfl (lv_at hl 2 rfl) ?_
                  refine va_get (D := D) (ci := 6) (v := .int mrw) (C := RX6) (T := TX6) (N := 23) hx hb hts w0 hown hK hP 0 rfl rfl 15 (by decide) w3 (fun _ h9 => h9) rfl dX6_takesClause_130 ?_
                  refine lv_imul hx hb dX6_takesClause_133 ?_
                  refine lv_bipush (v := 8) hx hb dX6_takesClause_134 (by decide) ?_
                  refine lv_isub hx hb dX6_takesClause_136 ?_
                  refine lv_iconst (v := 3) hx hb dX6_takesClause_137 (by decide) ?_
                  refine lv_iadd hx hb dX6_takesClause_138 ?_
                  refine lv_iconst (v := 1) hx hb dX6_takesClause_139 (by decide) ?_
                  obtain ⟨g164, hf⟩ := gd_inv hf
                  refine va_iast hx hb hK hP hD hS 2 2 rfl rfl g164 dX6_takesClause_140 (fun H locs hP hD hS => ?_)
                  have hP : va_P D vwCl [(ma, .inr (6, [.int mst, .int mwy, .int mmk, .int mwt, .ref m1, .ref m2, .ref m3, .ref m4, .int mun, .ref m5, .ref m6, .int mln, .int o135, .int o136, .int mrs, .int mrw, .int mcl, .int mdo, .int mnu, .ref m7, .ref m8, .ref m9, .ref m10])), (m1, .inl (cI, 24, .inl mvl)), (m2, .inl (cI, 96, .inl (upd mof (((((8 : Int32) * mrw) - 8) + 3).toNatClampNeg) 1))), (m3, .inl (cI, 168, .inl mw)), (m4, .inl (cF, 288, .inr (.inr (.inl mf)))), (m5, .inl (cZ, 2, .inl mik)), (m6, .inl (cI, 200, .inl mtx)), (m7, .inl (cI, 56, .inl mwd)), (m8, .inl (cI, 3, .inl msz)), (m9, .inl (cI, 3, .inl mso)), (m10, .inl (cI, 24, .inl mpl))] H := hP
                  have hD : va_D A [(ma, .inr (6, [.int mst, .int mwy, .int mmk, .int mwt, .ref m1, .ref m2, .ref m3, .ref m4, .int mun, .ref m5, .ref m6, .int mln, .int o135, .int o136, .int mrs, .int mrw, .int mcl, .int mdo, .int mnu, .ref m7, .ref m8, .ref m9, .ref m10])), (m1, .inl (cI, 24, .inl mvl)), (m2, .inl (cI, 96, .inl (upd mof (((((8 : Int32) * mrw) - 8) + 3).toNatClampNeg) 1))), (m3, .inl (cI, 168, .inl mw)), (m4, .inl (cF, 288, .inr (.inr (.inl mf)))), (m5, .inl (cZ, 2, .inl mik)), (m6, .inl (cI, 200, .inl mtx)), (m7, .inl (cI, 56, .inl mwd)), (m8, .inl (cI, 3, .inl msz)), (m9, .inl (cI, 3, .inl mso)), (m10, .inl (cI, 24, .inl mpl))] := hD
                  refine lv_iconst (v := 1) hx hb dX6_takesClause_141 (by decide) ?_
                  have h1 := Option.some.inj hf
                  subst h1
                  rw [hQ]
                  exact W.zret (v := 1) (ty := .boolean) hx hb hr rfl (fun t ht hW => qEnd hP hS ht) hS.2.2 dX6_takesClause_142
              · have hf := if_n c162 hf
                refine lv_tableOut (tgt := 143) hx hb dX6_takesClause_69 (by have h0 := lv_neT c138 (a := 0) rfl; have h1 := lv_neT c144 (a := 1) rfl; have h2 := lv_neT c153 (a := 2) rfl; have h3 := lv_neT c162 (a := 3) rfl; omega) (by decide) ?_
                refine lv_aload_n hx hb dX6_takesClause_143 rfl (lv_at hl 2 rfl) ?_
                obtain ⟨⟨r165, o166, o167, o168, o169, o170⟩, hc171, hf⟩ := bd_inv hf
                refine xcV (As := []) (rest := []) (ws' := [(ma, .inr (6, [.int mst, .int mwy, .int o166, .int o167, .ref m1, .ref m2, .ref m3, .ref m4, .int mun, .ref m5, .ref m6, .int mln, .int o168, .int o169, .int mrs, .int mrw, .int mcl, .int mdo, .int o170, .ref m7, .ref m8, .ref m9, .ref m10])), (m1, .inl (cI, 24, .inl mvl)), (m2, .inl (cI, 96, .inl mof)), (m3, .inl (cI, 168, .inl mw)), (m4, .inl (cF, 288, .inr (.inr (.inl mf)))), (m5, .inl (cZ, 2, .inl mik)), (m6, .inl (cI, 200, .inl mtx)), (m7, .inl (cI, 56, .inl mwd)), (m8, .inl (cI, 3, .inl msz)), (m9, .inl (cI, 3, .inl mso)), (m10, .inl (cI, 24, .inl mpl))]) ⟨hx, hb, hml, hown, hts⟩ (c_X6_takesMask l D B adK adV cC cF cI cZ cM cS ma mst mwy mmk mwt m1 m2 m3 m4 mun m5 m6 mln o135 o136 mrs mrw mcl mdo mnu m7 m8 m9 m10 mvl mof mw mf mik mtx mwd msz mso mpl  (r165, o166, o167, o168, o169, o170) hc171) (cwV 0 hts gX6_takesClause_X6_takesMask rfl rfl rfl (by decide +kernel) ⟨Nat.le_of_ble_eq_true rfl, Nat.le_of_ble_eq_true rfl⟩) (va_recv hK hP (ci := 6) (q0 := 0) rfl rfl) hK hP hD hS hB hE [0, 1, 2, 3, 4, 5, 6, 7, 8, 9, 10] rfl rfl rfl rfl rfl hl.1 rfl (Nat.le_of_ble_eq_true rfl) dX6_takesClause_144 ⟨Nat.le_of_ble_eq_true rfl, Nat.le_of_ble_eq_true rfl⟩ (fun H locs hP hD hS => ?_)
                refine W.eq (g2 := F0 m 147 ls [.int r165]) rfl ?_
                obtain ⟨g172, hf⟩ := gd_inv hf
                have h1 := Option.some.inj hf
                subst h1
                rw [hQ]
                exact W.zret (v := r165) (ty := .boolean) hx hb hr (zok_n g172) (fun t ht hW => qEnd hP hS ht) hS.2.2 dX6_takesClause_147
set_option maxRecDepth 100000 in
set_option maxHeartbeats 4000000 in
theorem c_X6_reads (l : Launch) (D : va_G) (B : Nat) (adK adV : Nat → Nat) (cC cF cI cZ cM cS : ClassId) (ma : Nat) (mst : Int32) (mwy : Int32) (mmk : Int32) (mwt : Int32) (m1 : Nat) (m2 : Nat) (m3 : Nat) (m4 : Nat) (mun : Int32) (m5 : Nat) (m6 : Nat) (mln : Int32) (mfi : Int32) (mbe : Int32) (mrs : Int32) (mrw : Int32) (mcl : Int32) (mdo : Int32) (mnu : Int32) (m7 : Nat) (m8 : Nat) (m9 : Nat) (m10 : Nat) (mvl : Nat → Int32) (mof : Nat → Int32) (mw : Nat → Int32) (mf : Nat → UInt32) (mik : Nat → Int32) (mtx : Nat → Int32) (mwd : Nat → Int32) (msz : Nat → Int32) (mso : Nat → Int32) (mpl : Nat → Int32) (v : Int32) (zz : Int32 × (Nat → Int32) × (Nat → Int32) × Int32 × Int32 × Int32 × Int32 × Int32 × Int32 × Int32 × Int32 × Int32) (hf : f_X6_reads mst mwy mmk mwt mln mnu mvl mof mtx mwd v = some zz) : Ct l yX6_reads wsX6_reads { frames := 8, cells := 0, slots := 0, locals := 174 } D B adK adV (tysX cC cF cI cZ cM cS) [.ref ma, .int v] [(ma, .inr (6, [.int mst, .int mwy, .int mmk, .int mwt, .ref m1, .ref m2, .ref m3, .ref m4, .int mun, .ref m5, .ref m6, .int mln, .int mfi, .int mbe, .int mrs, .int mrw, .int mcl, .int mdo, .int mnu, .ref m7, .ref m8, .ref m9, .ref m10])), (m1, .inl (cI, 24, .inl mvl)), (m2, .inl (cI, 96, .inl mof)), (m3, .inl (cI, 168, .inl mw)), (m4, .inl (cF, 288, .inr (.inr (.inl mf)))), (m5, .inl (cZ, 2, .inl mik)), (m6, .inl (cI, 200, .inl mtx)), (m7, .inl (cI, 56, .inl mwd)), (m8, .inl (cI, 3, .inl msz)), (m9, .inl (cI, 3, .inl mso)), (m10, .inl (cI, 24, .inl mpl))] [(ma, .inr (6, [.int mst, .int mwy, .int zz.2.2.2.1, .int zz.2.2.2.2.1, .ref m1, .ref m2, .ref m3, .ref m4, .int mun, .ref m5, .ref m6, .int mln, .int zz.2.2.2.2.2.1, .int zz.2.2.2.2.2.2.1, .int zz.2.2.2.2.2.2.2.1, .int zz.2.2.2.2.2.2.2.2.1, .int zz.2.2.2.2.2.2.2.2.2.1, .int zz.2.2.2.2.2.2.2.2.2.2.1, .int zz.2.2.2.2.2.2.2.2.2.2.2, .ref m7, .ref m8, .ref m9, .ref m10])), (m1, .inl (cI, 24, .inl zz.2.1)), (m2, .inl (cI, 96, .inl zz.2.2.1)), (m3, .inl (cI, 168, .inl mw)), (m4, .inl (cF, 288, .inr (.inr (.inl mf)))), (m5, .inl (cZ, 2, .inl mik)), (m6, .inl (cI, 200, .inl mtx)), (m7, .inl (cI, 56, .inl mwd)), (m8, .inl (cI, 3, .inl msz)), (m9, .inl (cI, 3, .inl mso)), (m10, .inl (cI, 24, .inl mpl))] (some (.int zz.1)) := by
  refine Ct.ofW (cc := cX6_reads) (maxL := 3) (ret := (some .boolean)) (by decide) rfl (Nat.le_of_ble_eq_true rfl) ?_
  intro p e s m args below meth c hx hb hr hml hts hown hlocks hnm hK hE A Q hQ hB H locs ls hP hD hS hl
  have hl : lv_has ls 3 [(0, .ref ma), (1, .int v)] := hl
  have w0 : ∀ w ∈ u_ws RX6 TX6 23, w ∈ wsX6_reads := by decide +kernel
  have w1 := hts (.fieldLink RX6 96 "MotionStatesModel" "doing" "Z") (by decide +kernel)
  have w2 := hts (.fieldLink RX6 69 "MotionStatesModel" "behind" "I") (by decide +kernel)
  have w3 := hts (.fieldLink RX6 141 "MotionStatesModel" "clauses" "I") (by decide +kernel)
  have w4 := hts (.fieldLink RX6 144 "MotionStatesModel" "states" "I") (by decide +kernel)
  have w5 := hts (.fieldLink RX6 100 "MotionStatesModel" "readStates" "I") (by decide +kernel)
  have w6 := hts (.fieldLink RX6 147 "MotionStatesModel" "ways" "I") (by decide +kernel)
  have w7 := hts (.fieldLink RX6 103 "MotionStatesModel" "readWays" "I") (by decide +kernel)
  have w8 := hts (.fieldLink RX6 72 "MotionStatesModel" "first" "I") (by decide +kernel)
  have w9 := hts (.fieldLink RX6 58 "MotionStatesModel" "length" "I") (by decide +kernel)
  have w10 := hts (.fieldLink RX6 31 "MotionStatesModel" "text" "[I") (by decide +kernel)
  have L40 : ∀ (n : Nat) (x2_40 : Int32) (mmk_40 : Int32) (mwt_40 : Int32) (mfi_40 : Int32) (mbe_40 : Int32) (mrs_40 : Int32) (mrw_40 : Int32) (mcl_40 : Int32) (mnu_40 : Int32) (mvl_40 : Nat → Int32) (mof_40 : Nat → Int32) (oo : Int32 × Int32 × Int32 × Int32 × Int32 × Int32 × Int32 × Int32 × Int32 × (Nat → Int32) × (Nat → Int32)), f_X6_reads_L40 mln mtx v mwd n x2_40 mmk_40 mwt_40 mfi_40 mbe_40 mrs_40 mrw_40 mcl_40 mnu_40 mvl_40 mof_40 = some oo → ∀ (H : Heap) (locs : List Loc) (ls : Array Slot), va_P D vwCl [(ma, .inr (6, [.int mst, .int mwy, .int mmk_40, .int mwt_40, .ref m1, .ref m2, .ref m3, .ref m4, .int mun, .ref m5, .ref m6, .int mln, .int mfi_40, .int mbe_40, .int mrs_40, .int mrw_40, .int mcl_40, .int v, .int mnu_40, .ref m7, .ref m8, .ref m9, .ref m10])), (m1, .inl (cI, 24, .inl mvl_40)), (m2, .inl (cI, 96, .inl mof_40)), (m3, .inl (cI, 168, .inl mw)), (m4, .inl (cF, 288, .inr (.inr (.inl mf)))), (m5, .inl (cZ, 2, .inl mik)), (m6, .inl (cI, 200, .inl mtx)), (m7, .inl (cI, 56, .inl mwd)), (m8, .inl (cI, 3, .inl msz)), (m9, .inl (cI, 3, .inl mso)), (m10, .inl (cI, 24, .inl mpl))] H → va_D A [(ma, .inr (6, [.int mst, .int mwy, .int mmk_40, .int mwt_40, .ref m1, .ref m2, .ref m3, .ref m4, .int mun, .ref m5, .ref m6, .int mln, .int mfi_40, .int mbe_40, .int mrs_40, .int mrw_40, .int mcl_40, .int v, .int mnu_40, .ref m7, .ref m8, .ref m9, .ref m10])), (m1, .inl (cI, 24, .inl mvl_40)), (m2, .inl (cI, 96, .inl mof_40)), (m3, .inl (cI, 168, .inl mw)), (m4, .inl (cF, 288, .inr (.inr (.inl mf)))), (m5, .inl (cZ, 2, .inl mik)), (m6, .inl (cI, 200, .inl mtx)), (m7, .inl (cI, 56, .inl mwd)), (m8, .inl (cI, 3, .inl msz)), (m9, .inl (cI, 3, .inl mso)), (m10, .inl (cI, 24, .inl mpl))] → va_S A s.heap H locs → lv_has ls 3 [(2, .int x2_40), (0, .ref ma), (1, .int v)] → (∀ (H : Heap) (locs : List Loc) (ls : Array Slot), va_P D vwCl [(ma, .inr (6, [.int mst, .int mwy, .int oo.2.1, .int oo.2.2.1, .ref m1, .ref m2, .ref m3, .ref m4, .int mun, .ref m5, .ref m6, .int mln, .int oo.2.2.2.1, .int oo.2.2.2.2.1, .int oo.2.2.2.2.2.1, .int oo.2.2.2.2.2.2.1, .int oo.2.2.2.2.2.2.2.1, .int v, .int oo.2.2.2.2.2.2.2.2.1, .ref m7, .ref m8, .ref m9, .ref m10])), (m1, .inl (cI, 24, .inl oo.2.2.2.2.2.2.2.2.2.1)), (m2, .inl (cI, 96, .inl oo.2.2.2.2.2.2.2.2.2.2)), (m3, .inl (cI, 168, .inl mw)), (m4, .inl (cF, 288, .inr (.inr (.inl mf)))), (m5, .inl (cZ, 2, .inl mik)), (m6, .inl (cI, 200, .inl mtx)), (m7, .inl (cI, 56, .inl mwd)), (m8, .inl (cI, 3, .inl msz)), (m9, .inl (cI, 3, .inl mso)), (m10, .inl (cI, 24, .inl mpl))] H → va_D A [(ma, .inr (6, [.int mst, .int mwy, .int oo.2.1, .int oo.2.2.1, .ref m1, .ref m2, .ref m3, .ref m4, .int mun, .ref m5, .ref m6, .int mln, .int oo.2.2.2.1, .int oo.2.2.2.2.1, .int oo.2.2.2.2.2.1, .int oo.2.2.2.2.2.2.1, .int oo.2.2.2.2.2.2.2.1, .int v, .int oo.2.2.2.2.2.2.2.2.1, .ref m7, .ref m8, .ref m9, .ref m10])), (m1, .inl (cI, 24, .inl oo.2.2.2.2.2.2.2.2.2.1)), (m2, .inl (cI, 96, .inl oo.2.2.2.2.2.2.2.2.2.2)), (m3, .inl (cI, 168, .inl mw)), (m4, .inl (cF, 288, .inr (.inr (.inl mf)))), (m5, .inl (cZ, 2, .inl mik)), (m6, .inl (cI, 200, .inl mtx)), (m7, .inl (cI, 56, .inl mwd)), (m8, .inl (cI, 3, .inl msz)), (m9, .inl (cI, 3, .inl mso)), (m10, .inl (cI, 24, .inl mpl))] → va_S A s.heap H locs → lv_has ls 3 [(2, .int oo.1), (0, .ref ma), (1, .int v)] → W p l e { frames := 8, cells := 0, slots := 0, locals := 174 } s m args below meth c H locs 0 0 Q (F0 m 110 ls [])) → W p l e { frames := 8, cells := 0, slots := 0, locals := 174 } s m args below meth c H locs 0 0 Q (F0 m 40 ls []) := by
    intro n
    induction n with
    | zero => intro x2_40 mmk_40 mwt_40 mfi_40 mbe_40 mrs_40 mrw_40 mcl_40 mnu_40 mvl_40 mof_40 oo hf; exact absurd hf (by simp [f_X6_reads_L40])
    | succ n ih =>
      intro x2_40 mmk_40 mwt_40 mfi_40 mbe_40 mrs_40 mrw_40 mcl_40 mnu_40 mvl_40 mof_40 oo hf H locs ls hP hD hS hl kk
      rw [f_X6_reads_L40] at hf
      refine lv_iload_n hx hb dX6_reads_40 rfl (lv_at hl 0 rfl) ?_
      refine lv_if_eq (tgt := 110) hx hb dX6_reads_41 (by decide) (fun c16 => ?_) (fun c16 => ?_)
      · have hf := if_p c16 hf
        have h1 := Option.some.inj hf
        subst h1
        exact kk H locs ls hP hD hS (lv_sub hl [0, 1, 2] rfl)
      · have hf := if_n c16 hf
        refine lv_aload_n hx hb dX6_reads_44 rfl (lv_at hl 1 rfl) ?_
        refine va_get (D := D) (ci := 6) (v := .int mfi_40) (C := RX6) (T := TX6) (N := 23) hx hb hts w0 hown hK hP 0 rfl rfl 12 (by decide) w8 (fun _ h9 => h9) rfl dX6_reads_45 ?_
        refine lv_aload_n hx hb dX6_reads_48 rfl (lv_at hl 1 rfl) ?_
        refine va_get (D := D) (ci := 6) (v := .int mln) (C := RX6) (T := TX6) (N := 23) hx hb hts w0 hown hK hP 0 rfl rfl 11 (by decide) w9 (fun _ h9 => h9) rfl dX6_reads_49 ?_
        refine lv_icmp_ge (tgt := 110) hx hb dX6_reads_52 (by decide) (fun c17 => ?_) (fun c17 => ?_)
        · have hf := if_p c17 hf
          have h1 := Option.some.inj hf
          subst h1
          exact kk H locs ls hP hD hS (lv_sub hl [0, 1, 2] rfl)
        · have hf := if_n c17 hf
          refine lv_aload_n hx hb dX6_reads_55 rfl (lv_at hl 1 rfl) ?_
          refine va_get (D := D) (ci := 6) (v := .int mcl_40) (C := RX6) (T := TX6) (N := 23) hx hb hts w0 hown hK hP 0 rfl rfl 16 (by decide) w3 (fun _ h9 => h9) rfl dX6_reads_56 ?_
          refine lv_bipush (v := 24) hx hb dX6_reads_59 (by decide) ?_
          refine lv_icmp_ge (tgt := 82) hx hb dX6_reads_61 (by decide) (fun c18 => ?_) (fun c18 => ?_)
          · have hf := if_p c18 hf
            refine lv_iconst (v := 0) hx hb dX6_reads_82 (by decide) ?_
            refine lv_istore_n (lv' := [(2, .int 0), (0, .ref ma), (1, .int v)]) hx hb dX6_reads_83 rfl hl (by decide) rfl (fun ls hl => ?_)
            refine lv_iload_n hx hb dX6_reads_84 rfl (lv_at hl 0 rfl) ?_
            refine lv_if_eq (tgt := 40) hx hb dX6_reads_85 (by decide) (fun c19 => ?_) (fun c19 => absurd c19 (by decide))
            exact ih 0 mmk_40 mwt_40 mfi_40 mbe_40 mrs_40 mrw_40 mcl_40 mnu_40 mvl_40 mof_40 oo hf H locs ls hP hD hS (lv_sub hl [0, 1, 2] rfl) kk
          · have hf := if_n c18 hf
            refine lv_aload_n hx hb dX6_reads_64 rfl (lv_at hl 1 rfl) ?_
            refine va_get (D := D) (ci := 6) (v := .ref m6) (C := RX6) (T := TX6) (N := 23) hx hb hts w0 hown hK hP 0 rfl rfl 10 (by decide) w10 (fun _ h9 => h9) rfl dX6_reads_65 ?_
            refine lv_aload_n hx hb dX6_reads_68 rfl (lv_at hl 1 rfl) ?_
            refine va_get (D := D) (ci := 6) (v := .int mfi_40) (C := RX6) (T := TX6) (N := 23) hx hb hts w0 hown hK hP 0 rfl rfl 12 (by decide) w8 (fun _ h9 => h9) rfl dX6_reads_69 ?_
            obtain ⟨g20, hf⟩ := gd_inv hf
            refine va_iald hx hb hK hP 6 2 rfl rfl g20 dX6_reads_72 ?_
            refine lv_bipush (v := 59) hx hb dX6_reads_73 (by decide) ?_
            refine lv_icmp_ne (tgt := 82) hx hb dX6_reads_75 (by decide) (fun c21 => ?_) (fun c21 => ?_)
            · have hf := if_n c21 hf
              refine lv_iconst (v := 0) hx hb dX6_reads_82 (by decide) ?_
              refine lv_istore_n (lv' := [(2, .int 0), (0, .ref ma), (1, .int v)]) hx hb dX6_reads_83 rfl hl (by decide) rfl (fun ls hl => ?_)
              refine lv_iload_n hx hb dX6_reads_84 rfl (lv_at hl 0 rfl) ?_
              refine lv_if_eq (tgt := 40) hx hb dX6_reads_85 (by decide) (fun c22 => ?_) (fun c22 => absurd c22 (by decide))
              exact ih 0 mmk_40 mwt_40 mfi_40 mbe_40 mrs_40 mrw_40 mcl_40 mnu_40 mvl_40 mof_40 oo hf H locs ls hP hD hS (lv_sub hl [0, 1, 2] rfl) kk
            · have hf := if_p c21 hf
              refine lv_iconst (v := 1) hx hb dX6_reads_78 (by decide) ?_
              refine lv_goto (tgt := 83) hx hb dX6_reads_79 (by decide) ?_
              refine lv_istore_n (lv' := [(2, .int 1), (0, .ref ma), (1, .int v)]) hx hb dX6_reads_83 rfl hl (by decide) rfl (fun ls hl => ?_)
              refine lv_iload_n hx hb dX6_reads_84 rfl (lv_at hl 0 rfl) ?_
              refine lv_if_eq (tgt := 40) hx hb dX6_reads_85 (by decide) (fun c23 => absurd c23 (by decide)) (fun c23 => ?_)
              refine lv_aload_n hx hb dX6_reads_88 rfl (lv_at hl 1 rfl) ?_
              obtain ⟨⟨o24, o25⟩, hc26, hf⟩ := bd_inv hf
              refine xcV (As := []) (rest := []) (ws' := [(ma, .inr (6, [.int mst, .int mwy, .int mmk_40, .int mwt_40, .ref m1, .ref m2, .ref m3, .ref m4, .int mun, .ref m5, .ref m6, .int mln, .int o24, .int o25, .int mrs_40, .int mrw_40, .int mcl_40, .int v, .int mnu_40, .ref m7, .ref m8, .ref m9, .ref m10])), (m1, .inl (cI, 24, .inl mvl_40)), (m2, .inl (cI, 96, .inl mof_40)), (m3, .inl (cI, 168, .inl mw)), (m4, .inl (cF, 288, .inr (.inr (.inl mf)))), (m5, .inl (cZ, 2, .inl mik)), (m6, .inl (cI, 200, .inl mtx)), (m7, .inl (cI, 56, .inl mwd)), (m8, .inl (cI, 3, .inl msz)), (m9, .inl (cI, 3, .inl mso)), (m10, .inl (cI, 24, .inl mpl))]) ⟨hx, hb, hml, hown, hts⟩ (c_X6_nextToken l D B adK adV cC cF cI cZ cM cS ma mst mwy mmk_40 mwt_40 m1 m2 m3 m4 mun m5 m6 mln mfi_40 mbe_40 mrs_40 mrw_40 mcl_40 v mnu_40 m7 m8 m9 m10 mvl_40 mof_40 mw mf mik mtx mwd msz mso mpl  (o24, o25) hc26) (cwV 0 hts gX6_reads_X6_nextToken rfl rfl rfl (by decide +kernel) ⟨Nat.le_of_ble_eq_true rfl, Nat.le_of_ble_eq_true rfl⟩) (va_recv hK hP (ci := 6) (q0 := 0) rfl rfl) hK hP hD hS hB hE [0, 1, 2, 3, 4, 5, 6, 7, 8, 9, 10] rfl rfl rfl rfl rfl hl.1 rfl (Nat.le_of_ble_eq_true rfl) dX6_reads_89 ⟨Nat.le_of_ble_eq_true rfl, Nat.le_of_ble_eq_true rfl⟩ (fun H locs hP hD hS => ?_)
              refine W.eq (g2 := F0 m 92 ls []) rfl ?_
              refine lv_aload_n hx hb dX6_reads_92 rfl (lv_at hl 1 rfl) ?_
              obtain ⟨⟨r27, o28, o29, o30, o31, o32, o33, o34, o35, o36⟩, hc37, hf⟩ := bd_inv hf
              refine xcV (As := []) (rest := []) (ws' := [(ma, .inr (6, [.int mst, .int mwy, .int o30, .int o31, .ref m1, .ref m2, .ref m3, .ref m4, .int mun, .ref m5, .ref m6, .int mln, .int o32, .int o33, .int o34, .int o35, .int mcl_40, .int v, .int o36, .ref m7, .ref m8, .ref m9, .ref m10])), (m1, .inl (cI, 24, .inl o28)), (m2, .inl (cI, 96, .inl o29)), (m3, .inl (cI, 168, .inl mw)), (m4, .inl (cF, 288, .inr (.inr (.inl mf)))), (m5, .inl (cZ, 2, .inl mik)), (m6, .inl (cI, 200, .inl mtx)), (m7, .inl (cI, 56, .inl mwd)), (m8, .inl (cI, 3, .inl msz)), (m9, .inl (cI, 3, .inl mso)), (m10, .inl (cI, 24, .inl mpl))]) ⟨hx, hb, hml, hown, hts⟩ (c_X6_takesClause l D B adK adV cC cF cI cZ cM cS ma mst mwy mmk_40 mwt_40 m1 m2 m3 m4 mun m5 m6 mln o24 o25 mrs_40 mrw_40 mcl_40 v mnu_40 m7 m8 m9 m10 mvl_40 mof_40 mw mf mik mtx mwd msz mso mpl  (r27, o28, o29, o30, o31, o32, o33, o34, o35, o36) hc37) (cwV 0 hts gX6_reads_X6_takesClause rfl rfl rfl (by decide +kernel) ⟨Nat.le_of_ble_eq_true rfl, Nat.le_of_ble_eq_true rfl⟩) (va_recv hK hP (ci := 6) (q0 := 0) rfl rfl) hK hP hD hS hB hE [0, 1, 2, 3, 4, 5, 6, 7, 8, 9, 10] rfl rfl rfl rfl rfl hl.1 rfl (Nat.le_of_ble_eq_true rfl) dX6_reads_93 ⟨Nat.le_of_ble_eq_true rfl, Nat.le_of_ble_eq_true rfl⟩ (fun H locs hP hD hS => ?_)
              refine W.eq (g2 := F0 m 96 ls [.int r27]) rfl ?_
              refine lv_istore_n (lv' := [(2, .int r27), (0, .ref ma), (1, .int v)]) hx hb dX6_reads_96 rfl hl (by decide) rfl (fun ls hl => ?_)
              refine lv_aload_n hx hb dX6_reads_97 rfl (lv_at hl 1 rfl) ?_
              refine lv_dup hx hb dX6_reads_98 rfl ?_
              refine va_get (D := D) (ci := 6) (v := .int mcl_40) (C := RX6) (T := TX6) (N := 23) hx hb hts w0 hown hK hP 0 rfl rfl 16 (by decide) w3 (fun _ h9 => h9) rfl dX6_reads_99 ?_
              refine lv_iconst (v := 1) hx hb dX6_reads_102 (by decide) ?_
              refine lv_iadd hx hb dX6_reads_103 ?_
              refine va_put (D := D) (ci := 6) (v := .int (mcl_40 + 1)) (ty := .int) (C := RX6) (T := TX6) (N := 23) hx hb hts w0 tyX6 tyX6_ok nmX6 hown hK hP hD hS 0 rfl rfl 16 (by decide) w3 (fun _ h9 => h9) rfl (by decide +kernel) rfl rfl (Nat.le_of_ble_eq_true rfl) dX6_reads_104 (fun H locs hP hD hS => ?_)
              have hP : va_P D vwCl [(ma, .inr (6, [.int mst, .int mwy, .int o30, .int o31, .ref m1, .ref m2, .ref m3, .ref m4, .int mun, .ref m5, .ref m6, .int mln, .int o32, .int o33, .int o34, .int o35, .int (mcl_40 + 1), .int v, .int o36, .ref m7, .ref m8, .ref m9, .ref m10])), (m1, .inl (cI, 24, .inl o28)), (m2, .inl (cI, 96, .inl o29)), (m3, .inl (cI, 168, .inl mw)), (m4, .inl (cF, 288, .inr (.inr (.inl mf)))), (m5, .inl (cZ, 2, .inl mik)), (m6, .inl (cI, 200, .inl mtx)), (m7, .inl (cI, 56, .inl mwd)), (m8, .inl (cI, 3, .inl msz)), (m9, .inl (cI, 3, .inl mso)), (m10, .inl (cI, 24, .inl mpl))] H := hP
              have hD : va_D A [(ma, .inr (6, [.int mst, .int mwy, .int o30, .int o31, .ref m1, .ref m2, .ref m3, .ref m4, .int mun, .ref m5, .ref m6, .int mln, .int o32, .int o33, .int o34, .int o35, .int (mcl_40 + 1), .int v, .int o36, .ref m7, .ref m8, .ref m9, .ref m10])), (m1, .inl (cI, 24, .inl o28)), (m2, .inl (cI, 96, .inl o29)), (m3, .inl (cI, 168, .inl mw)), (m4, .inl (cF, 288, .inr (.inr (.inl mf)))), (m5, .inl (cZ, 2, .inl mik)), (m6, .inl (cI, 200, .inl mtx)), (m7, .inl (cI, 56, .inl mwd)), (m8, .inl (cI, 3, .inl msz)), (m9, .inl (cI, 3, .inl mso)), (m10, .inl (cI, 24, .inl mpl))] := hD
              refine lv_goto (tgt := 40) hx hb dX6_reads_107 (by decide) ?_
              exact ih r27 o30 o31 o32 o33 o34 o35 (mcl_40 + 1) o36 o28 o29 oo hf H locs ls hP hD hS (lv_sub hl [0, 1, 2] rfl) kk
  unfold f_X6_reads at hf
  refine lv_aload_n hx hb dX6_reads_0 rfl (lv_at hl 0 rfl) ?_
  refine lv_iload_n hx hb dX6_reads_1 rfl (lv_at hl 1 rfl) ?_
  obtain ⟨g1, hf⟩ := gd_inv hf
  refine va_put (D := D) (ci := 6) (v := .int v) (ty := .boolean) (C := RX6) (T := TX6) (N := 23) hx hb hts w0 tyX6 tyX6_ok nmX6 hown hK hP hD hS 0 rfl rfl 17 (by decide) w1 (fun _ h9 => h9) rfl (by decide +kernel) (zok_n g1) (zok_f g1) (Nat.le_of_ble_eq_true rfl) dX6_reads_2 (fun H locs hP hD hS => ?_)
  have hP : va_P D vwCl [(ma, .inr (6, [.int mst, .int mwy, .int mmk, .int mwt, .ref m1, .ref m2, .ref m3, .ref m4, .int mun, .ref m5, .ref m6, .int mln, .int mfi, .int mbe, .int mrs, .int mrw, .int mcl, .int v, .int mnu, .ref m7, .ref m8, .ref m9, .ref m10])), (m1, .inl (cI, 24, .inl mvl)), (m2, .inl (cI, 96, .inl mof)), (m3, .inl (cI, 168, .inl mw)), (m4, .inl (cF, 288, .inr (.inr (.inl mf)))), (m5, .inl (cZ, 2, .inl mik)), (m6, .inl (cI, 200, .inl mtx)), (m7, .inl (cI, 56, .inl mwd)), (m8, .inl (cI, 3, .inl msz)), (m9, .inl (cI, 3, .inl mso)), (m10, .inl (cI, 24, .inl mpl))] H := hP
  have hD : va_D A [(ma, .inr (6, [.int mst, .int mwy, .int mmk, .int mwt, .ref m1, .ref m2, .ref m3, .ref m4, .int mun, .ref m5, .ref m6, .int mln, .int mfi, .int mbe, .int mrs, .int mrw, .int mcl, .int v, .int mnu, .ref m7, .ref m8, .ref m9, .ref m10])), (m1, .inl (cI, 24, .inl mvl)), (m2, .inl (cI, 96, .inl mof)), (m3, .inl (cI, 168, .inl mw)), (m4, .inl (cF, 288, .inr (.inr (.inl mf)))), (m5, .inl (cZ, 2, .inl mik)), (m6, .inl (cI, 200, .inl mtx)), (m7, .inl (cI, 56, .inl mwd)), (m8, .inl (cI, 3, .inl msz)), (m9, .inl (cI, 3, .inl mso)), (m10, .inl (cI, 24, .inl mpl))] := hD
  refine lv_aload_n hx hb dX6_reads_5 rfl (lv_at hl 0 rfl) ?_
  refine lv_iconst (v := 0) hx hb dX6_reads_6 (by decide) ?_
  refine va_put (D := D) (ci := 6) (v := .int 0) (ty := .int) (C := RX6) (T := TX6) (N := 23) hx hb hts w0 tyX6 tyX6_ok nmX6 hown hK hP hD hS 0 rfl rfl 13 (by decide) w2 (fun _ h9 => h9) rfl (by decide +kernel) rfl rfl (Nat.le_of_ble_eq_true rfl) dX6_reads_7 (fun H locs hP hD hS => ?_)
  have hP : va_P D vwCl [(ma, .inr (6, [.int mst, .int mwy, .int mmk, .int mwt, .ref m1, .ref m2, .ref m3, .ref m4, .int mun, .ref m5, .ref m6, .int mln, .int mfi, .int 0, .int mrs, .int mrw, .int mcl, .int v, .int mnu, .ref m7, .ref m8, .ref m9, .ref m10])), (m1, .inl (cI, 24, .inl mvl)), (m2, .inl (cI, 96, .inl mof)), (m3, .inl (cI, 168, .inl mw)), (m4, .inl (cF, 288, .inr (.inr (.inl mf)))), (m5, .inl (cZ, 2, .inl mik)), (m6, .inl (cI, 200, .inl mtx)), (m7, .inl (cI, 56, .inl mwd)), (m8, .inl (cI, 3, .inl msz)), (m9, .inl (cI, 3, .inl mso)), (m10, .inl (cI, 24, .inl mpl))] H := hP
  have hD : va_D A [(ma, .inr (6, [.int mst, .int mwy, .int mmk, .int mwt, .ref m1, .ref m2, .ref m3, .ref m4, .int mun, .ref m5, .ref m6, .int mln, .int mfi, .int 0, .int mrs, .int mrw, .int mcl, .int v, .int mnu, .ref m7, .ref m8, .ref m9, .ref m10])), (m1, .inl (cI, 24, .inl mvl)), (m2, .inl (cI, 96, .inl mof)), (m3, .inl (cI, 168, .inl mw)), (m4, .inl (cF, 288, .inr (.inr (.inl mf)))), (m5, .inl (cZ, 2, .inl mik)), (m6, .inl (cI, 200, .inl mtx)), (m7, .inl (cI, 56, .inl mwd)), (m8, .inl (cI, 3, .inl msz)), (m9, .inl (cI, 3, .inl mso)), (m10, .inl (cI, 24, .inl mpl))] := hD
  refine lv_aload_n hx hb dX6_reads_10 rfl (lv_at hl 0 rfl) ?_
  refine lv_iconst (v := 1) hx hb dX6_reads_11 (by decide) ?_
  refine va_put (D := D) (ci := 6) (v := .int 1) (ty := .int) (C := RX6) (T := TX6) (N := 23) hx hb hts w0 tyX6 tyX6_ok nmX6 hown hK hP hD hS 0 rfl rfl 16 (by decide) w3 (fun _ h9 => h9) rfl (by decide +kernel) rfl rfl (Nat.le_of_ble_eq_true rfl) dX6_reads_12 (fun H locs hP hD hS => ?_)
  have hP : va_P D vwCl [(ma, .inr (6, [.int mst, .int mwy, .int mmk, .int mwt, .ref m1, .ref m2, .ref m3, .ref m4, .int mun, .ref m5, .ref m6, .int mln, .int mfi, .int 0, .int mrs, .int mrw, .int 1, .int v, .int mnu, .ref m7, .ref m8, .ref m9, .ref m10])), (m1, .inl (cI, 24, .inl mvl)), (m2, .inl (cI, 96, .inl mof)), (m3, .inl (cI, 168, .inl mw)), (m4, .inl (cF, 288, .inr (.inr (.inl mf)))), (m5, .inl (cZ, 2, .inl mik)), (m6, .inl (cI, 200, .inl mtx)), (m7, .inl (cI, 56, .inl mwd)), (m8, .inl (cI, 3, .inl msz)), (m9, .inl (cI, 3, .inl mso)), (m10, .inl (cI, 24, .inl mpl))] H := hP
  have hD : va_D A [(ma, .inr (6, [.int mst, .int mwy, .int mmk, .int mwt, .ref m1, .ref m2, .ref m3, .ref m4, .int mun, .ref m5, .ref m6, .int mln, .int mfi, .int 0, .int mrs, .int mrw, .int 1, .int v, .int mnu, .ref m7, .ref m8, .ref m9, .ref m10])), (m1, .inl (cI, 24, .inl mvl)), (m2, .inl (cI, 96, .inl mof)), (m3, .inl (cI, 168, .inl mw)), (m4, .inl (cF, 288, .inr (.inr (.inl mf)))), (m5, .inl (cZ, 2, .inl mik)), (m6, .inl (cI, 200, .inl mtx)), (m7, .inl (cI, 56, .inl mwd)), (m8, .inl (cI, 3, .inl msz)), (m9, .inl (cI, 3, .inl mso)), (m10, .inl (cI, 24, .inl mpl))] := hD
  refine lv_aload_n hx hb dX6_reads_15 rfl (lv_at hl 0 rfl) ?_
  refine lv_aload_n hx hb dX6_reads_16 rfl (lv_at hl 0 rfl) ?_
  refine va_get (D := D) (ci := 6) (v := .int mst) (C := RX6) (T := TX6) (N := 23) hx hb hts w0 hown hK hP 0 rfl rfl 0 (by decide) w4 (fun _ h9 => h9) rfl dX6_reads_17 ?_
  refine va_put (D := D) (ci := 6) (v := .int mst) (ty := .int) (C := RX6) (T := TX6) (N := 23) hx hb hts w0 tyX6 tyX6_ok nmX6 hown hK hP hD hS 0 rfl rfl 14 (by decide) w5 (fun _ h9 => h9) rfl (by decide +kernel) rfl rfl (Nat.le_of_ble_eq_true rfl) dX6_reads_20 (fun H locs hP hD hS => ?_)
  have hP : va_P D vwCl [(ma, .inr (6, [.int mst, .int mwy, .int mmk, .int mwt, .ref m1, .ref m2, .ref m3, .ref m4, .int mun, .ref m5, .ref m6, .int mln, .int mfi, .int 0, .int mst, .int mrw, .int 1, .int v, .int mnu, .ref m7, .ref m8, .ref m9, .ref m10])), (m1, .inl (cI, 24, .inl mvl)), (m2, .inl (cI, 96, .inl mof)), (m3, .inl (cI, 168, .inl mw)), (m4, .inl (cF, 288, .inr (.inr (.inl mf)))), (m5, .inl (cZ, 2, .inl mik)), (m6, .inl (cI, 200, .inl mtx)), (m7, .inl (cI, 56, .inl mwd)), (m8, .inl (cI, 3, .inl msz)), (m9, .inl (cI, 3, .inl mso)), (m10, .inl (cI, 24, .inl mpl))] H := hP
  have hD : va_D A [(ma, .inr (6, [.int mst, .int mwy, .int mmk, .int mwt, .ref m1, .ref m2, .ref m3, .ref m4, .int mun, .ref m5, .ref m6, .int mln, .int mfi, .int 0, .int mst, .int mrw, .int 1, .int v, .int mnu, .ref m7, .ref m8, .ref m9, .ref m10])), (m1, .inl (cI, 24, .inl mvl)), (m2, .inl (cI, 96, .inl mof)), (m3, .inl (cI, 168, .inl mw)), (m4, .inl (cF, 288, .inr (.inr (.inl mf)))), (m5, .inl (cZ, 2, .inl mik)), (m6, .inl (cI, 200, .inl mtx)), (m7, .inl (cI, 56, .inl mwd)), (m8, .inl (cI, 3, .inl msz)), (m9, .inl (cI, 3, .inl mso)), (m10, .inl (cI, 24, .inl mpl))] := hD
  refine lv_aload_n hx hb dX6_reads_23 rfl (lv_at hl 0 rfl) ?_
  refine lv_aload_n hx hb dX6_reads_24 rfl (lv_at hl 0 rfl) ?_
  refine va_get (D := D) (ci := 6) (v := .int mwy) (C := RX6) (T := TX6) (N := 23) hx hb hts w0 hown hK hP 0 rfl rfl 1 (by decide) w6 (fun _ h9 => h9) rfl dX6_reads_25 ?_
  refine va_put (D := D) (ci := 6) (v := .int mwy) (ty := .int) (C := RX6) (T := TX6) (N := 23) hx hb hts w0 tyX6 tyX6_ok nmX6 hown hK hP hD hS 0 rfl rfl 15 (by decide) w7 (fun _ h9 => h9) rfl (by decide +kernel) rfl rfl (Nat.le_of_ble_eq_true rfl) dX6_reads_28 (fun H locs hP hD hS => ?_)
  have hP : va_P D vwCl [(ma, .inr (6, [.int mst, .int mwy, .int mmk, .int mwt, .ref m1, .ref m2, .ref m3, .ref m4, .int mun, .ref m5, .ref m6, .int mln, .int mfi, .int 0, .int mst, .int mwy, .int 1, .int v, .int mnu, .ref m7, .ref m8, .ref m9, .ref m10])), (m1, .inl (cI, 24, .inl mvl)), (m2, .inl (cI, 96, .inl mof)), (m3, .inl (cI, 168, .inl mw)), (m4, .inl (cF, 288, .inr (.inr (.inl mf)))), (m5, .inl (cZ, 2, .inl mik)), (m6, .inl (cI, 200, .inl mtx)), (m7, .inl (cI, 56, .inl mwd)), (m8, .inl (cI, 3, .inl msz)), (m9, .inl (cI, 3, .inl mso)), (m10, .inl (cI, 24, .inl mpl))] H := hP
  have hD : va_D A [(ma, .inr (6, [.int mst, .int mwy, .int mmk, .int mwt, .ref m1, .ref m2, .ref m3, .ref m4, .int mun, .ref m5, .ref m6, .int mln, .int mfi, .int 0, .int mst, .int mwy, .int 1, .int v, .int mnu, .ref m7, .ref m8, .ref m9, .ref m10])), (m1, .inl (cI, 24, .inl mvl)), (m2, .inl (cI, 96, .inl mof)), (m3, .inl (cI, 168, .inl mw)), (m4, .inl (cF, 288, .inr (.inr (.inl mf)))), (m5, .inl (cZ, 2, .inl mik)), (m6, .inl (cI, 200, .inl mtx)), (m7, .inl (cI, 56, .inl mwd)), (m8, .inl (cI, 3, .inl msz)), (m9, .inl (cI, 3, .inl mso)), (m10, .inl (cI, 24, .inl mpl))] := hD
  refine lv_aload_n hx hb dX6_reads_31 rfl (lv_at hl 0 rfl) ?_
  obtain ⟨⟨o2, o3⟩, hc4, hf⟩ := bd_inv hf
  refine xcV (As := []) (rest := []) (ws' := [(ma, .inr (6, [.int mst, .int mwy, .int mmk, .int mwt, .ref m1, .ref m2, .ref m3, .ref m4, .int mun, .ref m5, .ref m6, .int mln, .int o2, .int o3, .int mst, .int mwy, .int 1, .int v, .int mnu, .ref m7, .ref m8, .ref m9, .ref m10])), (m1, .inl (cI, 24, .inl mvl)), (m2, .inl (cI, 96, .inl mof)), (m3, .inl (cI, 168, .inl mw)), (m4, .inl (cF, 288, .inr (.inr (.inl mf)))), (m5, .inl (cZ, 2, .inl mik)), (m6, .inl (cI, 200, .inl mtx)), (m7, .inl (cI, 56, .inl mwd)), (m8, .inl (cI, 3, .inl msz)), (m9, .inl (cI, 3, .inl mso)), (m10, .inl (cI, 24, .inl mpl))]) ⟨hx, hb, hml, hown, hts⟩ (c_X6_nextToken l D B adK adV cC cF cI cZ cM cS ma mst mwy mmk mwt m1 m2 m3 m4 mun m5 m6 mln mfi 0 mst mwy 1 v mnu m7 m8 m9 m10 mvl mof mw mf mik mtx mwd msz mso mpl  (o2, o3) hc4) (cwV 0 hts gX6_reads_X6_nextToken rfl rfl rfl (by decide +kernel) ⟨Nat.le_of_ble_eq_true rfl, Nat.le_of_ble_eq_true rfl⟩) (va_recv hK hP (ci := 6) (q0 := 0) rfl rfl) hK hP hD hS hB hE [0, 1, 2, 3, 4, 5, 6, 7, 8, 9, 10] rfl rfl rfl rfl rfl hl.1 rfl (Nat.le_of_ble_eq_true rfl) dX6_reads_32 ⟨Nat.le_of_ble_eq_true rfl, Nat.le_of_ble_eq_true rfl⟩ (fun H locs hP hD hS => ?_)
  refine W.eq (g2 := F0 m 35 ls []) rfl ?_
  refine lv_aload_n hx hb dX6_reads_35 rfl (lv_at hl 0 rfl) ?_
  obtain ⟨⟨r5, o6, o7, o8, o9, o10, o11, o12, o13, o14⟩, hc15, hf⟩ := bd_inv hf
  refine xcV (As := []) (rest := []) (ws' := [(ma, .inr (6, [.int mst, .int mwy, .int o8, .int o9, .ref m1, .ref m2, .ref m3, .ref m4, .int mun, .ref m5, .ref m6, .int mln, .int o10, .int o11, .int o12, .int o13, .int 1, .int v, .int o14, .ref m7, .ref m8, .ref m9, .ref m10])), (m1, .inl (cI, 24, .inl o6)), (m2, .inl (cI, 96, .inl o7)), (m3, .inl (cI, 168, .inl mw)), (m4, .inl (cF, 288, .inr (.inr (.inl mf)))), (m5, .inl (cZ, 2, .inl mik)), (m6, .inl (cI, 200, .inl mtx)), (m7, .inl (cI, 56, .inl mwd)), (m8, .inl (cI, 3, .inl msz)), (m9, .inl (cI, 3, .inl mso)), (m10, .inl (cI, 24, .inl mpl))]) ⟨hx, hb, hml, hown, hts⟩ (c_X6_takesClause l D B adK adV cC cF cI cZ cM cS ma mst mwy mmk mwt m1 m2 m3 m4 mun m5 m6 mln o2 o3 mst mwy 1 v mnu m7 m8 m9 m10 mvl mof mw mf mik mtx mwd msz mso mpl  (r5, o6, o7, o8, o9, o10, o11, o12, o13, o14) hc15) (cwV 0 hts gX6_reads_X6_takesClause rfl rfl rfl (by decide +kernel) ⟨Nat.le_of_ble_eq_true rfl, Nat.le_of_ble_eq_true rfl⟩) (va_recv hK hP (ci := 6) (q0 := 0) rfl rfl) hK hP hD hS hB hE [0, 1, 2, 3, 4, 5, 6, 7, 8, 9, 10] rfl rfl rfl rfl rfl hl.1 rfl (Nat.le_of_ble_eq_true rfl) dX6_reads_36 ⟨Nat.le_of_ble_eq_true rfl, Nat.le_of_ble_eq_true rfl⟩ (fun H locs hP hD hS => ?_)
  refine W.eq (g2 := F0 m 39 ls [.int r5]) rfl ?_
  refine lv_istore_n (lv' := [(2, .int r5), (0, .ref ma), (1, .int v)]) hx hb dX6_reads_39 rfl hl (by decide) rfl (fun ls hl => ?_)
  obtain ⟨⟨q38, q39, q40, q41, q42, q43, q44, q45, q46, q47, q48⟩, hq50, hf⟩ := bd_inv hf
  refine L40 1000 r5 o8 o9 o10 o11 o12 o13 1 o14 o6 o7 (q38, q39, q40, q41, q42, q43, q44, q45, q46, q47, q48) hq50 H locs ls hP hD hS (lv_sub hl [0, 1, 2] rfl) (fun H locs ls hP hD hS hl => ?_)
  have hP : va_P D vwCl [(ma, .inr (6, [.int mst, .int mwy, .int q39, .int q40, .ref m1, .ref m2, .ref m3, .ref m4, .int mun, .ref m5, .ref m6, .int mln, .int q41, .int q42, .int q43, .int q44, .int q45, .int v, .int q46, .ref m7, .ref m8, .ref m9, .ref m10])), (m1, .inl (cI, 24, .inl q47)), (m2, .inl (cI, 96, .inl q48)), (m3, .inl (cI, 168, .inl mw)), (m4, .inl (cF, 288, .inr (.inr (.inl mf)))), (m5, .inl (cZ, 2, .inl mik)), (m6, .inl (cI, 200, .inl mtx)), (m7, .inl (cI, 56, .inl mwd)), (m8, .inl (cI, 3, .inl msz)), (m9, .inl (cI, 3, .inl mso)), (m10, .inl (cI, 24, .inl mpl))] H := hP
  have hD : va_D A [(ma, .inr (6, [.int mst, .int mwy, .int q39, .int q40, .ref m1, .ref m2, .ref m3, .ref m4, .int mun, .ref m5, .ref m6, .int mln, .int q41, .int q42, .int q43, .int q44, .int q45, .int v, .int q46, .ref m7, .ref m8, .ref m9, .ref m10])), (m1, .inl (cI, 24, .inl q47)), (m2, .inl (cI, 96, .inl q48)), (m3, .inl (cI, 168, .inl mw)), (m4, .inl (cF, 288, .inr (.inr (.inl mf)))), (m5, .inl (cZ, 2, .inl mik)), (m6, .inl (cI, 200, .inl mtx)), (m7, .inl (cI, 56, .inl mwd)), (m8, .inl (cI, 3, .inl msz)), (m9, .inl (cI, 3, .inl mso)), (m10, .inl (cI, 24, .inl mpl))] := hD
  have hl : lv_has ls 3 [(2, .int q38), (0, .ref ma), (1, .int v)] := hl
  refine lv_iload_n hx hb dX6_reads_110 rfl (lv_at hl 0 rfl) ?_
  obtain ⟨g49, hf⟩ := gd_inv hf
  have h1 := Option.some.inj hf
  subst h1
  rw [hQ]
  exact W.zret (v := q38) (ty := .boolean) hx hb hr (zok_n g49) (fun t ht hW => qEnd hP hS ht) hS.2.2 dX6_reads_111
set_option maxRecDepth 100000 in
set_option maxHeartbeats 4000000 in
theorem c_X6_fault (l : Launch) (D : va_G) (B : Nat) (adK adV : Nat → Nat) (cC cF cI cZ cM cS : ClassId) (ma : Nat) (mst : Int32) (mwy : Int32) (mmk : Int32) (mwt : Int32) (m1 : Nat) (m2 : Nat) (m3 : Nat) (m4 : Nat) (mun : Int32) (m5 : Nat) (m6 : Nat) (mln : Int32) (mfi : Int32) (mbe : Int32) (mrs : Int32) (mrw : Int32) (mcl : Int32) (mdo : Int32) (mnu : Int32) (m7 : Nat) (m8 : Nat) (m9 : Nat) (m10 : Nat) (mvl : Nat → Int32) (mof : Nat → Int32) (mw : Nat → Int32) (mf : Nat → UInt32) (mik : Nat → Int32) (mtx : Nat → Int32) (mwd : Nat → Int32) (msz : Nat → Int32) (mso : Nat → Int32) (mpl : Nat → Int32) (zz : Int32 × (Nat → Int32) × (Nat → Int32) × Int32 × Int32 × Int32 × Int32 × Int32 × Int32 × Int32 × Int32 × Int32) (hf : f_X6_fault mst mwy mmk mwt mln mnu mvl mof mtx mwd = some zz) : Ct l yX6_fault wsX6_fault { frames := 9, cells := 0, slots := 0, locals := 196 } D B adK adV (tysX cC cF cI cZ cM cS) [.ref ma] [(ma, .inr (6, [.int mst, .int mwy, .int mmk, .int mwt, .ref m1, .ref m2, .ref m3, .ref m4, .int mun, .ref m5, .ref m6, .int mln, .int mfi, .int mbe, .int mrs, .int mrw, .int mcl, .int mdo, .int mnu, .ref m7, .ref m8, .ref m9, .ref m10])), (m1, .inl (cI, 24, .inl mvl)), (m2, .inl (cI, 96, .inl mof)), (m3, .inl (cI, 168, .inl mw)), (m4, .inl (cF, 288, .inr (.inr (.inl mf)))), (m5, .inl (cZ, 2, .inl mik)), (m6, .inl (cI, 200, .inl mtx)), (m7, .inl (cI, 56, .inl mwd)), (m8, .inl (cI, 3, .inl msz)), (m9, .inl (cI, 3, .inl mso)), (m10, .inl (cI, 24, .inl mpl))] [(ma, .inr (6, [.int mst, .int mwy, .int zz.2.2.2.1, .int zz.2.2.2.2.1, .ref m1, .ref m2, .ref m3, .ref m4, .int mun, .ref m5, .ref m6, .int mln, .int zz.2.2.2.2.2.1, .int zz.2.2.2.2.2.2.1, .int zz.2.2.2.2.2.2.2.1, .int zz.2.2.2.2.2.2.2.2.1, .int zz.2.2.2.2.2.2.2.2.2.1, .int zz.2.2.2.2.2.2.2.2.2.2.1, .int zz.2.2.2.2.2.2.2.2.2.2.2, .ref m7, .ref m8, .ref m9, .ref m10])), (m1, .inl (cI, 24, .inl zz.2.1)), (m2, .inl (cI, 96, .inl zz.2.2.1)), (m3, .inl (cI, 168, .inl mw)), (m4, .inl (cF, 288, .inr (.inr (.inl mf)))), (m5, .inl (cZ, 2, .inl mik)), (m6, .inl (cI, 200, .inl mtx)), (m7, .inl (cI, 56, .inl mwd)), (m8, .inl (cI, 3, .inl msz)), (m9, .inl (cI, 3, .inl mso)), (m10, .inl (cI, 24, .inl mpl))] (some (.int zz.1)) := by
  refine Ct.ofW (cc := cX6_fault) (maxL := 1) (ret := (some .int)) (by decide) rfl (Nat.le_of_ble_eq_true rfl) ?_
  intro p e s m args below meth c hx hb hr hml hts hown hlocks hnm hK hE A Q hQ hB H locs ls hP hD hS hl
  have hl : lv_has ls 1 [(0, .ref ma)] := hl
  have w0 : ∀ w ∈ u_ws RX6 TX6 23, w ∈ wsX6_fault := by decide +kernel
  have w1 := hts (.fieldLink RX6 72 "MotionStatesModel" "first" "I") (by decide +kernel)
  unfold f_X6_fault at hf
  refine lv_aload_n hx hb dX6_fault_0 rfl (lv_at hl 0 rfl) ?_
  refine lv_iconst (v := 0) hx hb dX6_fault_1 (by decide) ?_
  obtain ⟨⟨r1, o2, o3, o4, o5, o6, o7, o8, o9, o10, o11, o12⟩, hc13, hf⟩ := bd_inv hf
  refine xcV (As := [.int 0]) (rest := []) (ws' := [(ma, .inr (6, [.int mst, .int mwy, .int o4, .int o5, .ref m1, .ref m2, .ref m3, .ref m4, .int mun, .ref m5, .ref m6, .int mln, .int o6, .int o7, .int o8, .int o9, .int o10, .int o11, .int o12, .ref m7, .ref m8, .ref m9, .ref m10])), (m1, .inl (cI, 24, .inl o2)), (m2, .inl (cI, 96, .inl o3)), (m3, .inl (cI, 168, .inl mw)), (m4, .inl (cF, 288, .inr (.inr (.inl mf)))), (m5, .inl (cZ, 2, .inl mik)), (m6, .inl (cI, 200, .inl mtx)), (m7, .inl (cI, 56, .inl mwd)), (m8, .inl (cI, 3, .inl msz)), (m9, .inl (cI, 3, .inl mso)), (m10, .inl (cI, 24, .inl mpl))]) ⟨hx, hb, hml, hown, hts⟩ (c_X6_reads l D B adK adV cC cF cI cZ cM cS ma mst mwy mmk mwt m1 m2 m3 m4 mun m5 m6 mln mfi mbe mrs mrw mcl mdo mnu m7 m8 m9 m10 mvl mof mw mf mik mtx mwd msz mso mpl 0  (r1, o2, o3, o4, o5, o6, o7, o8, o9, o10, o11, o12) hc13) (cwV 1 hts gX6_fault_X6_reads rfl rfl rfl (by decide +kernel) ⟨Nat.le_of_ble_eq_true rfl, Nat.le_of_ble_eq_true rfl⟩) (va_recv hK hP (ci := 6) (q0 := 0) rfl rfl) hK hP hD hS hB hE [0, 1, 2, 3, 4, 5, 6, 7, 8, 9, 10] rfl rfl rfl rfl rfl hl.1 rfl (Nat.le_of_ble_eq_true rfl) dX6_fault_2 ⟨Nat.le_of_ble_eq_true rfl, Nat.le_of_ble_eq_true rfl⟩ (fun H locs hP hD hS => ?_)
  refine W.eq (g2 := F0 m 5 ls [.int r1]) rfl ?_
  refine lv_if_eq (tgt := 12) hx hb dX6_fault_5 (by decide) (fun c14 => ?_) (fun c14 => ?_)
  · have hf := if_p c14 hf
    refine lv_aload_n hx hb dX6_fault_12 rfl (lv_at hl 0 rfl) ?_
    refine va_get (D := D) (ci := 6) (v := .int o6) (C := RX6) (T := TX6) (N := 23) hx hb hts w0 hown hK hP 0 rfl rfl 12 (by decide) w1 (fun _ h9 => h9) rfl dX6_fault_13 ?_
    have h1 := Option.some.inj hf
    subst h1
    rw [hQ]
    exact W.iret (v := o6) hx hb hr (fun t ht hW => qEnd hP hS ht) hS.2.2 dX6_fault_16
  · have hf := if_n c14 hf
    refine lv_iconst (v := (-1)) hx hb dX6_fault_8 (by decide) ?_
    refine lv_goto (tgt := 16) hx hb dX6_fault_9 (by decide) ?_
    have h1 := Option.some.inj hf
    subst h1
    rw [hQ]
    exact W.iret (v := (-1)) hx hb hr (fun t ht hW => qEnd hP hS ht) hS.2.2 dX6_fault_16
set_option maxRecDepth 100000 in
set_option maxHeartbeats 4000000 in
theorem c_X6_figure (l : Launch) (D : va_G) (B : Nat) (adK adV : Nat → Nat) (cC cF cI cZ cM cS : ClassId) (ma : Nat) (mst : Int32) (mwy : Int32) (mmk : Int32) (mwt : Int32) (m1 : Nat) (m2 : Nat) (m3 : Nat) (m4 : Nat) (mun : Int32) (m5 : Nat) (m6 : Nat) (mln : Int32) (mfi : Int32) (mbe : Int32) (mrs : Int32) (mrw : Int32) (mcl : Int32) (mdo : Int32) (mnu : Int32) (m7 : Nat) (m8 : Nat) (m9 : Nat) (m10 : Nat) (mvl : Nat → Int32) (mof : Nat → Int32) (mw : Nat → Int32) (mf : Nat → UInt32) (mik : Nat → Int32) (mtx : Nat → Int32) (mwd : Nat → Int32) (msz : Nat → Int32) (mso : Nat → Int32) (mpl : Nat → Int32) (zz : Int32 × (Nat → Int32) × (Nat → Int32) × (Nat → Int32) × (Nat → UInt32) × (Nat → Int32) × (Nat → Int32) × Int32 × Int32 × Int32 × Int32 × Int32 × Int32 × Int32 × Int32 × Int32 × Int32 × Int32 × Int32 × Int32) (hf : f_X6_figure mst mwy mmk mwt mun mln mnu mvl mof mw mf mik mtx mwd msz = some zz) : Ct l yX6_figure wsX6_figure { frames := 9, cells := 0, slots := 0, locals := 196 } D B adK adV (tysX cC cF cI cZ cM cS) [.ref ma] [(ma, .inr (6, [.int mst, .int mwy, .int mmk, .int mwt, .ref m1, .ref m2, .ref m3, .ref m4, .int mun, .ref m5, .ref m6, .int mln, .int mfi, .int mbe, .int mrs, .int mrw, .int mcl, .int mdo, .int mnu, .ref m7, .ref m8, .ref m9, .ref m10])), (m1, .inl (cI, 24, .inl mvl)), (m2, .inl (cI, 96, .inl mof)), (m3, .inl (cI, 168, .inl mw)), (m4, .inl (cF, 288, .inr (.inr (.inl mf)))), (m5, .inl (cZ, 2, .inl mik)), (m6, .inl (cI, 200, .inl mtx)), (m7, .inl (cI, 56, .inl mwd)), (m8, .inl (cI, 3, .inl msz)), (m9, .inl (cI, 3, .inl mso)), (m10, .inl (cI, 24, .inl mpl))] [(ma, .inr (6, [.int zz.2.2.2.2.2.2.2.1, .int zz.2.2.2.2.2.2.2.2.1, .int zz.2.2.2.2.2.2.2.2.2.1, .int zz.2.2.2.2.2.2.2.2.2.2.1, .ref m1, .ref m2, .ref m3, .ref m4, .int zz.2.2.2.2.2.2.2.2.2.2.2.1, .ref m5, .ref m6, .int zz.2.2.2.2.2.2.2.2.2.2.2.2.1, .int zz.2.2.2.2.2.2.2.2.2.2.2.2.2.1, .int zz.2.2.2.2.2.2.2.2.2.2.2.2.2.2.1, .int zz.2.2.2.2.2.2.2.2.2.2.2.2.2.2.2.1, .int zz.2.2.2.2.2.2.2.2.2.2.2.2.2.2.2.2.1, .int zz.2.2.2.2.2.2.2.2.2.2.2.2.2.2.2.2.2.1, .int zz.2.2.2.2.2.2.2.2.2.2.2.2.2.2.2.2.2.2.1, .int zz.2.2.2.2.2.2.2.2.2.2.2.2.2.2.2.2.2.2.2, .ref m7, .ref m8, .ref m9, .ref m10])), (m1, .inl (cI, 24, .inl zz.2.1)), (m2, .inl (cI, 96, .inl zz.2.2.1)), (m3, .inl (cI, 168, .inl zz.2.2.2.1)), (m4, .inl (cF, 288, .inr (.inr (.inl zz.2.2.2.2.1)))), (m5, .inl (cZ, 2, .inl zz.2.2.2.2.2.1)), (m6, .inl (cI, 200, .inl mtx)), (m7, .inl (cI, 56, .inl mwd)), (m8, .inl (cI, 3, .inl zz.2.2.2.2.2.2.1)), (m9, .inl (cI, 3, .inl mso)), (m10, .inl (cI, 24, .inl mpl))] (some (.int zz.1)) := by
  refine Ct.ofW (cc := cX6_figure) (maxL := 2) (ret := (some .int)) (by decide) rfl (Nat.le_of_ble_eq_true rfl) ?_
  intro p e s m args below meth c hx hb hr hml hts hown hlocks hnm hK hE A Q hQ hB H locs ls hP hD hS hl
  have hl : lv_has ls 2 [(0, .ref ma)] := hl
  have w0 : ∀ w ∈ u_ws RX6 TX6 23, w ∈ wsX6_figure := by decide +kernel
  have w1 := hts (.fieldLink RX6 100 "MotionStatesModel" "readStates" "I") (by decide +kernel)
  have w2 := hts (.fieldLink RX6 144 "MotionStatesModel" "states" "I") (by decide +kernel)
  have w3 := hts (.fieldLink RX6 103 "MotionStatesModel" "readWays" "I") (by decide +kernel)
  have w4 := hts (.fieldLink RX6 147 "MotionStatesModel" "ways" "I") (by decide +kernel)
  have w5 := hts (.fieldLink RX6 58 "MotionStatesModel" "length" "I") (by decide +kernel)
  have w6 := hts (.fieldLink RX6 141 "MotionStatesModel" "clauses" "I") (by decide +kernel)
  unfold f_X6_figure at hf
  refine lv_aload_n hx hb dX6_figure_0 rfl (lv_at hl 0 rfl) ?_
  refine lv_iconst (v := 0) hx hb dX6_figure_1 (by decide) ?_
  obtain ⟨⟨r1, o2, o3, o4, o5, o6, o7, o8, o9, o10, o11, o12⟩, hc13, hf⟩ := bd_inv hf
  refine xcV (As := [.int 0]) (rest := []) (ws' := [(ma, .inr (6, [.int mst, .int mwy, .int o4, .int o5, .ref m1, .ref m2, .ref m3, .ref m4, .int mun, .ref m5, .ref m6, .int mln, .int o6, .int o7, .int o8, .int o9, .int o10, .int o11, .int o12, .ref m7, .ref m8, .ref m9, .ref m10])), (m1, .inl (cI, 24, .inl o2)), (m2, .inl (cI, 96, .inl o3)), (m3, .inl (cI, 168, .inl mw)), (m4, .inl (cF, 288, .inr (.inr (.inl mf)))), (m5, .inl (cZ, 2, .inl mik)), (m6, .inl (cI, 200, .inl mtx)), (m7, .inl (cI, 56, .inl mwd)), (m8, .inl (cI, 3, .inl msz)), (m9, .inl (cI, 3, .inl mso)), (m10, .inl (cI, 24, .inl mpl))]) ⟨hx, hb, hml, hown, hts⟩ (c_X6_reads l D B adK adV cC cF cI cZ cM cS ma mst mwy mmk mwt m1 m2 m3 m4 mun m5 m6 mln mfi mbe mrs mrw mcl mdo mnu m7 m8 m9 m10 mvl mof mw mf mik mtx mwd msz mso mpl 0  (r1, o2, o3, o4, o5, o6, o7, o8, o9, o10, o11, o12) hc13) (cwV 1 hts gX6_figure_X6_reads rfl rfl rfl (by decide +kernel) ⟨Nat.le_of_ble_eq_true rfl, Nat.le_of_ble_eq_true rfl⟩) (va_recv hK hP (ci := 6) (q0 := 0) rfl rfl) hK hP hD hS hB hE [0, 1, 2, 3, 4, 5, 6, 7, 8, 9, 10] rfl rfl rfl rfl rfl hl.1 rfl (Nat.le_of_ble_eq_true rfl) dX6_figure_2 ⟨Nat.le_of_ble_eq_true rfl, Nat.le_of_ble_eq_true rfl⟩ (fun H locs hP hD hS => ?_)
  refine W.eq (g2 := F0 m 5 ls [.int r1]) rfl ?_
  refine lv_if_ne (tgt := 11) hx hb dX6_figure_5 (by decide) (fun c14 => ?_) (fun c14 => ?_)
  · have hf := if_n c14 hf
    refine lv_aload_n hx hb dX6_figure_11 rfl (lv_at hl 0 rfl) ?_
    refine lv_iconst (v := 1) hx hb dX6_figure_12 (by decide) ?_
    obtain ⟨⟨r15, o16, o17, o18, o19, o20, o21, o22, o23, o24, o25, o26⟩, hc27, hf⟩ := bd_inv hf
    refine xcV (As := [.int 1]) (rest := []) (ws' := [(ma, .inr (6, [.int mst, .int mwy, .int o18, .int o19, .ref m1, .ref m2, .ref m3, .ref m4, .int mun, .ref m5, .ref m6, .int mln, .int o20, .int o21, .int o22, .int o23, .int o24, .int o25, .int o26, .ref m7, .ref m8, .ref m9, .ref m10])), (m1, .inl (cI, 24, .inl o16)), (m2, .inl (cI, 96, .inl o17)), (m3, .inl (cI, 168, .inl mw)), (m4, .inl (cF, 288, .inr (.inr (.inl mf)))), (m5, .inl (cZ, 2, .inl mik)), (m6, .inl (cI, 200, .inl mtx)), (m7, .inl (cI, 56, .inl mwd)), (m8, .inl (cI, 3, .inl msz)), (m9, .inl (cI, 3, .inl mso)), (m10, .inl (cI, 24, .inl mpl))]) ⟨hx, hb, hml, hown, hts⟩ (c_X6_reads l D B adK adV cC cF cI cZ cM cS ma mst mwy o4 o5 m1 m2 m3 m4 mun m5 m6 mln o6 o7 o8 o9 o10 o11 o12 m7 m8 m9 m10 o2 o3 mw mf mik mtx mwd msz mso mpl 1  (r15, o16, o17, o18, o19, o20, o21, o22, o23, o24, o25, o26) hc27) (cwV 1 hts gX6_figure_X6_reads rfl rfl rfl (by decide +kernel) ⟨Nat.le_of_ble_eq_true rfl, Nat.le_of_ble_eq_true rfl⟩) (va_recv hK hP (ci := 6) (q0 := 0) rfl rfl) hK hP hD hS hB hE [0, 1, 2, 3, 4, 5, 6, 7, 8, 9, 10] rfl rfl rfl rfl rfl hl.1 rfl (Nat.le_of_ble_eq_true rfl) dX6_figure_13 ⟨Nat.le_of_ble_eq_true rfl, Nat.le_of_ble_eq_true rfl⟩ (fun H locs hP hD hS => ?_)
    refine W.eq (g2 := F0 m 16 ls [.int r15]) rfl ?_
    refine lv_istore_n (lv' := [(1, .int r15), (0, .ref ma)]) hx hb dX6_figure_16 rfl hl (by decide) rfl (fun ls hl => ?_)
    refine lv_aload_n hx hb dX6_figure_17 rfl (lv_at hl 1 rfl) ?_
    refine lv_aload_n hx hb dX6_figure_18 rfl (lv_at hl 1 rfl) ?_
    refine va_get (D := D) (ci := 6) (v := .int o22) (C := RX6) (T := TX6) (N := 23) hx hb hts w0 hown hK hP 0 rfl rfl 14 (by decide) w1 (fun _ h9 => h9) rfl dX6_figure_19 ?_
    refine va_put (D := D) (ci := 6) (v := .int o22) (ty := .int) (C := RX6) (T := TX6) (N := 23) hx hb hts w0 tyX6 tyX6_ok nmX6 hown hK hP hD hS 0 rfl rfl 0 (by decide) w2 (fun _ h9 => h9) rfl (by decide +kernel) rfl rfl (Nat.le_of_ble_eq_true rfl) dX6_figure_22 (fun H locs hP hD hS => ?_)
    have hP : va_P D vwCl [(ma, .inr (6, [.int o22, .int mwy, .int o18, .int o19, .ref m1, .ref m2, .ref m3, .ref m4, .int mun, .ref m5, .ref m6, .int mln, .int o20, .int o21, .int o22, .int o23, .int o24, .int o25, .int o26, .ref m7, .ref m8, .ref m9, .ref m10])), (m1, .inl (cI, 24, .inl o16)), (m2, .inl (cI, 96, .inl o17)), (m3, .inl (cI, 168, .inl mw)), (m4, .inl (cF, 288, .inr (.inr (.inl mf)))), (m5, .inl (cZ, 2, .inl mik)), (m6, .inl (cI, 200, .inl mtx)), (m7, .inl (cI, 56, .inl mwd)), (m8, .inl (cI, 3, .inl msz)), (m9, .inl (cI, 3, .inl mso)), (m10, .inl (cI, 24, .inl mpl))] H := hP
    have hD : va_D A [(ma, .inr (6, [.int o22, .int mwy, .int o18, .int o19, .ref m1, .ref m2, .ref m3, .ref m4, .int mun, .ref m5, .ref m6, .int mln, .int o20, .int o21, .int o22, .int o23, .int o24, .int o25, .int o26, .ref m7, .ref m8, .ref m9, .ref m10])), (m1, .inl (cI, 24, .inl o16)), (m2, .inl (cI, 96, .inl o17)), (m3, .inl (cI, 168, .inl mw)), (m4, .inl (cF, 288, .inr (.inr (.inl mf)))), (m5, .inl (cZ, 2, .inl mik)), (m6, .inl (cI, 200, .inl mtx)), (m7, .inl (cI, 56, .inl mwd)), (m8, .inl (cI, 3, .inl msz)), (m9, .inl (cI, 3, .inl mso)), (m10, .inl (cI, 24, .inl mpl))] := hD
    refine lv_aload_n hx hb dX6_figure_25 rfl (lv_at hl 1 rfl) ?_
    refine lv_aload_n hx hb dX6_figure_26 rfl (lv_at hl 1 rfl) ?_
    refine va_get (D := D) (ci := 6) (v := .int o23) (C := RX6) (T := TX6) (N := 23) hx hb hts w0 hown hK hP 0 rfl rfl 15 (by decide) w3 (fun _ h9 => h9) rfl dX6_figure_27 ?_
    refine va_put (D := D) (ci := 6) (v := .int o23) (ty := .int) (C := RX6) (T := TX6) (N := 23) hx hb hts w0 tyX6 tyX6_ok nmX6 hown hK hP hD hS 0 rfl rfl 1 (by decide) w4 (fun _ h9 => h9) rfl (by decide +kernel) rfl rfl (Nat.le_of_ble_eq_true rfl) dX6_figure_30 (fun H locs hP hD hS => ?_)
    have hP : va_P D vwCl [(ma, .inr (6, [.int o22, .int o23, .int o18, .int o19, .ref m1, .ref m2, .ref m3, .ref m4, .int mun, .ref m5, .ref m6, .int mln, .int o20, .int o21, .int o22, .int o23, .int o24, .int o25, .int o26, .ref m7, .ref m8, .ref m9, .ref m10])), (m1, .inl (cI, 24, .inl o16)), (m2, .inl (cI, 96, .inl o17)), (m3, .inl (cI, 168, .inl mw)), (m4, .inl (cF, 288, .inr (.inr (.inl mf)))), (m5, .inl (cZ, 2, .inl mik)), (m6, .inl (cI, 200, .inl mtx)), (m7, .inl (cI, 56, .inl mwd)), (m8, .inl (cI, 3, .inl msz)), (m9, .inl (cI, 3, .inl mso)), (m10, .inl (cI, 24, .inl mpl))] H := hP
    have hD : va_D A [(ma, .inr (6, [.int o22, .int o23, .int o18, .int o19, .ref m1, .ref m2, .ref m3, .ref m4, .int mun, .ref m5, .ref m6, .int mln, .int o20, .int o21, .int o22, .int o23, .int o24, .int o25, .int o26, .ref m7, .ref m8, .ref m9, .ref m10])), (m1, .inl (cI, 24, .inl o16)), (m2, .inl (cI, 96, .inl o17)), (m3, .inl (cI, 168, .inl mw)), (m4, .inl (cF, 288, .inr (.inr (.inl mf)))), (m5, .inl (cZ, 2, .inl mik)), (m6, .inl (cI, 200, .inl mtx)), (m7, .inl (cI, 56, .inl mwd)), (m8, .inl (cI, 3, .inl msz)), (m9, .inl (cI, 3, .inl mso)), (m10, .inl (cI, 24, .inl mpl))] := hD
    refine lv_aload_n hx hb dX6_figure_33 rfl (lv_at hl 1 rfl) ?_
    refine lv_iconst (v := 0) hx hb dX6_figure_34 (by decide) ?_
    refine va_put (D := D) (ci := 6) (v := .int 0) (ty := .int) (C := RX6) (T := TX6) (N := 23) hx hb hts w0 tyX6 tyX6_ok nmX6 hown hK hP hD hS 0 rfl rfl 11 (by decide) w5 (fun _ h9 => h9) rfl (by decide +kernel) rfl rfl (Nat.le_of_ble_eq_true rfl) dX6_figure_35 (fun H locs hP hD hS => ?_)
    have hP : va_P D vwCl [(ma, .inr (6, [.int o22, .int o23, .int o18, .int o19, .ref m1, .ref m2, .ref m3, .ref m4, .int mun, .ref m5, .ref m6, .int 0, .int o20, .int o21, .int o22, .int o23, .int o24, .int o25, .int o26, .ref m7, .ref m8, .ref m9, .ref m10])), (m1, .inl (cI, 24, .inl o16)), (m2, .inl (cI, 96, .inl o17)), (m3, .inl (cI, 168, .inl mw)), (m4, .inl (cF, 288, .inr (.inr (.inl mf)))), (m5, .inl (cZ, 2, .inl mik)), (m6, .inl (cI, 200, .inl mtx)), (m7, .inl (cI, 56, .inl mwd)), (m8, .inl (cI, 3, .inl msz)), (m9, .inl (cI, 3, .inl mso)), (m10, .inl (cI, 24, .inl mpl))] H := hP
    have hD : va_D A [(ma, .inr (6, [.int o22, .int o23, .int o18, .int o19, .ref m1, .ref m2, .ref m3, .ref m4, .int mun, .ref m5, .ref m6, .int 0, .int o20, .int o21, .int o22, .int o23, .int o24, .int o25, .int o26, .ref m7, .ref m8, .ref m9, .ref m10])), (m1, .inl (cI, 24, .inl o16)), (m2, .inl (cI, 96, .inl o17)), (m3, .inl (cI, 168, .inl mw)), (m4, .inl (cF, 288, .inr (.inr (.inl mf)))), (m5, .inl (cZ, 2, .inl mik)), (m6, .inl (cI, 200, .inl mtx)), (m7, .inl (cI, 56, .inl mwd)), (m8, .inl (cI, 3, .inl msz)), (m9, .inl (cI, 3, .inl mso)), (m10, .inl (cI, 24, .inl mpl))] := hD
    refine lv_aload_n hx hb dX6_figure_38 rfl (lv_at hl 1 rfl) ?_
    obtain ⟨⟨o28, o29, o30, o31, o32⟩, hc33, hf⟩ := bd_inv hf
    refine xcV (As := []) (rest := []) (ws' := [(ma, .inr (6, [.int o22, .int o23, .int o18, .int o19, .ref m1, .ref m2, .ref m3, .ref m4, .int o32, .ref m5, .ref m6, .int 0, .int o20, .int o21, .int o22, .int o23, .int o24, .int o25, .int o26, .ref m7, .ref m8, .ref m9, .ref m10])), (m1, .inl (cI, 24, .inl o16)), (m2, .inl (cI, 96, .inl o17)), (m3, .inl (cI, 168, .inl o28)), (m4, .inl (cF, 288, .inr (.inr (.inl o29)))), (m5, .inl (cZ, 2, .inl o30)), (m6, .inl (cI, 200, .inl mtx)), (m7, .inl (cI, 56, .inl mwd)), (m8, .inl (cI, 3, .inl o31)), (m9, .inl (cI, 3, .inl mso)), (m10, .inl (cI, 24, .inl mpl))]) ⟨hx, hb, hml, hown, hts⟩ (c_X6_starts l D B adK adV cC cF cI cZ cM cS ma o22 o23 o18 o19 m1 m2 m3 m4 mun m5 m6 0 o20 o21 o22 o23 o24 o25 o26 m7 m8 m9 m10 o16 o17 mw mf mik mtx mwd msz mso mpl  (o28, o29, o30, o31, o32) hc33) (cwV 0 hts gX6_figure_X6_starts rfl rfl rfl (by decide +kernel) ⟨Nat.le_of_ble_eq_true rfl, Nat.le_of_ble_eq_true rfl⟩) (va_recv hK hP (ci := 6) (q0 := 0) rfl rfl) hK hP hD hS hB hE [0, 1, 2, 3, 4, 5, 6, 7, 8, 9, 10] rfl rfl rfl rfl rfl hl.1 rfl (Nat.le_of_ble_eq_true rfl) dX6_figure_39 ⟨Nat.le_of_ble_eq_true rfl, Nat.le_of_ble_eq_true rfl⟩ (fun H locs hP hD hS => ?_)
    refine W.eq (g2 := F0 m 42 ls []) rfl ?_
    refine lv_iload_n hx hb dX6_figure_42 rfl (lv_at hl 0 rfl) ?_
    refine lv_if_eq (tgt := 53) hx hb dX6_figure_43 (by decide) (fun c34 => ?_) (fun c34 => ?_)
    · have hf := if_p c34 hf
      refine lv_bipush (v := (-4)) hx hb dX6_figure_53 (by decide) ?_
      have h1 := Option.some.inj hf
      subst h1
      rw [hQ]
      exact W.iret (v := (-4)) hx hb hr (fun t ht hW => qEnd hP hS ht) hS.2.2 dX6_figure_55
    · have hf := if_n c34 hf
      refine lv_aload_n hx hb dX6_figure_46 rfl (lv_at hl 1 rfl) ?_
      refine va_get (D := D) (ci := 6) (v := .int o24) (C := RX6) (T := TX6) (N := 23) hx hb hts w0 hown hK hP 0 rfl rfl 16 (by decide) w6 (fun _ h9 => h9) rfl dX6_figure_47 ?_
      refine lv_goto (tgt := 55) hx hb dX6_figure_50 (by decide) ?_
      have h1 := Option.some.inj hf
      subst h1
      rw [hQ]
      exact W.iret (v := o24) hx hb hr (fun t ht hW => qEnd hP hS ht) hS.2.2 dX6_figure_55
  · have hf := if_p c14 hf
    refine lv_bipush (v := (-4)) hx hb dX6_figure_8 (by decide) ?_
    have h1 := Option.some.inj hf
    subst h1
    rw [hQ]
    exact W.iret (v := (-4)) hx hb hr (fun t ht hW => qEnd hP hS ht) hS.2.2 dX6_figure_10
