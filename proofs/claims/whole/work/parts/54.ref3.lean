set_option maxRecDepth 100000 in
set_option maxHeartbeats 4000000 in
theorem c_X6_minds (l : Launch) (D : va_G) (B : Nat) (adK adV : Nat → Nat) (cC cF cI cZ cM cS : ClassId) (ma : Nat) (mst : Int32) (mwy : Int32) (mmk : Int32) (mwt : Int32) (m1 : Nat) (m2 : Nat) (m3 : Nat) (m4 : Nat) (mun : Int32) (m5 : Nat) (m6 : Nat) (mln : Int32) (mfi : Int32) (mbe : Int32) (mrs : Int32) (mrw : Int32) (mcl : Int32) (mdo : Int32) (mnu : Int32) (m7 : Nat) (m8 : Nat) (m9 : Nat) (m10 : Nat) (mvl : Nat → Int32) (mof : Nat → Int32) (mw : Nat → Int32) (mf : Nat → UInt32) (mik : Nat → Int32) (mtx : Nat → Int32) (mwd : Nat → Int32) (msz : Nat → Int32) (mso : Nat → Int32) (mpl : Nat → Int32) (zz : (Nat → Int32) × (Nat → UInt32) × Int32) (hf : f_X6_minds mun mw mf = some zz) : Ct l yX6_minds wsX6_minds { frames := 1, cells := 0, slots := 0, locals := 23 } D B adK adV (tysX cC cF cI cZ cM cS) [.ref ma] [(ma, .inr (6, [.int mst, .int mwy, .int mmk, .int mwt, .ref m1, .ref m2, .ref m3, .ref m4, .int mun, .ref m5, .ref m6, .int mln, .int mfi, .int mbe, .int mrs, .int mrw, .int mcl, .int mdo, .int mnu, .ref m7, .ref m8, .ref m9, .ref m10])), (m1, .inl (cI, 24, .inl mvl)), (m2, .inl (cI, 96, .inl mof)), (m3, .inl (cI, 168, .inl mw)), (m4, .inl (cF, 288, .inr (.inr (.inl mf)))), (m5, .inl (cZ, 2, .inl mik)), (m6, .inl (cI, 200, .inl mtx)), (m7, .inl (cI, 56, .inl mwd)), (m8, .inl (cI, 3, .inl msz)), (m9, .inl (cI, 3, .inl mso)), (m10, .inl (cI, 24, .inl mpl))] [(ma, .inr (6, [.int mst, .int mwy, .int mmk, .int mwt, .ref m1, .ref m2, .ref m3, .ref m4, .int zz.2.2, .ref m5, .ref m6, .int mln, .int mfi, .int mbe, .int mrs, .int mrw, .int mcl, .int mdo, .int mnu, .ref m7, .ref m8, .ref m9, .ref m10])), (m1, .inl (cI, 24, .inl mvl)), (m2, .inl (cI, 96, .inl mof)), (m3, .inl (cI, 168, .inl zz.1)), (m4, .inl (cF, 288, .inr (.inr (.inl zz.2.1)))), (m5, .inl (cZ, 2, .inl mik)), (m6, .inl (cI, 200, .inl mtx)), (m7, .inl (cI, 56, .inl mwd)), (m8, .inl (cI, 3, .inl msz)), (m9, .inl (cI, 3, .inl mso)), (m10, .inl (cI, 24, .inl mpl))] none := by
  refine Ct.ofW (cc := cX6_minds) (maxL := 2) (ret := none) (by decide) rfl (Nat.le_of_ble_eq_true rfl) ?_
  intro p e s m args below meth c hx hb hr hml hts hown hlocks hnm hK hE A Q hQ hB H locs ls hP hD hS hl
  have hl : lv_has ls 2 [(0, .ref ma)] := hl
  have w0 : ∀ w ∈ u_ws RX6 TX6 23, w ∈ wsX6_minds := by decide +kernel
  have w1 := hts (.fieldLink RX6 49 "MotionStatesModel" "undos" "I") (by decide +kernel)
  have L11 : ∀ (n : Nat) (x1_11 : Int32) (mw_11 : Nat → Int32) (mf_11 : Nat → UInt32) (oo : Int32 × (Nat → Int32) × (Nat → UInt32)), f_X6_minds_L11 n x1_11 mw_11 mf_11 = some oo → ∀ (H : Heap) (locs : List Loc) (ls : Array Slot), va_P D vwCl [(ma, .inr (6, [.int mst, .int mwy, .int mmk, .int mwt, .ref m1, .ref m2, .ref m3, .ref m4, .int mun, .ref m5, .ref m6, .int mln, .int mfi, .int mbe, .int mrs, .int mrw, .int mcl, .int mdo, .int mnu, .ref m7, .ref m8, .ref m9, .ref m10])), (m1, .inl (cI, 24, .inl mvl)), (m2, .inl (cI, 96, .inl mof)), (m3, .inl (cI, 168, .inl mw_11)), (m4, .inl (cF, 288, .inr (.inr (.inl mf_11)))), (m5, .inl (cZ, 2, .inl mik)), (m6, .inl (cI, 200, .inl mtx)), (m7, .inl (cI, 56, .inl mwd)), (m8, .inl (cI, 3, .inl msz)), (m9, .inl (cI, 3, .inl mso)), (m10, .inl (cI, 24, .inl mpl))] H → va_D A [(ma, .inr (6, [.int mst, .int mwy, .int mmk, .int mwt, .ref m1, .ref m2, .ref m3, .ref m4, .int mun, .ref m5, .ref m6, .int mln, .int mfi, .int mbe, .int mrs, .int mrw, .int mcl, .int mdo, .int mnu, .ref m7, .ref m8, .ref m9, .ref m10])), (m1, .inl (cI, 24, .inl mvl)), (m2, .inl (cI, 96, .inl mof)), (m3, .inl (cI, 168, .inl mw_11)), (m4, .inl (cF, 288, .inr (.inr (.inl mf_11)))), (m5, .inl (cZ, 2, .inl mik)), (m6, .inl (cI, 200, .inl mtx)), (m7, .inl (cI, 56, .inl mwd)), (m8, .inl (cI, 3, .inl msz)), (m9, .inl (cI, 3, .inl mso)), (m10, .inl (cI, 24, .inl mpl))] → va_S A s.heap H locs → lv_has ls 2 [(1, .int x1_11), (0, .ref ma)] → (∀ (H : Heap) (locs : List Loc) (ls : Array Slot), va_P D vwCl [(ma, .inr (6, [.int mst, .int mwy, .int mmk, .int mwt, .ref m1, .ref m2, .ref m3, .ref m4, .int mun, .ref m5, .ref m6, .int mln, .int mfi, .int mbe, .int mrs, .int mrw, .int mcl, .int mdo, .int mnu, .ref m7, .ref m8, .ref m9, .ref m10])), (m1, .inl (cI, 24, .inl mvl)), (m2, .inl (cI, 96, .inl mof)), (m3, .inl (cI, 168, .inl oo.2.1)), (m4, .inl (cF, 288, .inr (.inr (.inl oo.2.2)))), (m5, .inl (cZ, 2, .inl mik)), (m6, .inl (cI, 200, .inl mtx)), (m7, .inl (cI, 56, .inl mwd)), (m8, .inl (cI, 3, .inl msz)), (m9, .inl (cI, 3, .inl mso)), (m10, .inl (cI, 24, .inl mpl))] H → va_D A [(ma, .inr (6, [.int mst, .int mwy, .int mmk, .int mwt, .ref m1, .ref m2, .ref m3, .ref m4, .int mun, .ref m5, .ref m6, .int mln, .int mfi, .int mbe, .int mrs, .int mrw, .int mcl, .int mdo, .int mnu, .ref m7, .ref m8, .ref m9, .ref m10])), (m1, .inl (cI, 24, .inl mvl)), (m2, .inl (cI, 96, .inl mof)), (m3, .inl (cI, 168, .inl oo.2.1)), (m4, .inl (cF, 288, .inr (.inr (.inl oo.2.2)))), (m5, .inl (cZ, 2, .inl mik)), (m6, .inl (cI, 200, .inl mtx)), (m7, .inl (cI, 56, .inl mwd)), (m8, .inl (cI, 3, .inl msz)), (m9, .inl (cI, 3, .inl mso)), (m10, .inl (cI, 24, .inl mpl))] → va_S A s.heap H locs → lv_has ls 2 [(1, .int oo.1), (0, .ref ma)] → W p l e { frames := 1, cells := 0, slots := 0, locals := 23 } s m args below meth c H locs 0 0 Q (F0 m 35 ls [])) → W p l e { frames := 1, cells := 0, slots := 0, locals := 23 } s m args below meth c H locs 0 0 Q (F0 m 11 ls []) := by
    intro n
    induction n with
    | zero => intro x1_11 mw_11 mf_11 oo hf; exact absurd hf (by simp [f_X6_minds_L11])
    | succ n ih =>
      intro x1_11 mw_11 mf_11 oo hf H locs ls hP hD hS hl kk
      rw [f_X6_minds_L11] at hf
      refine lv_iload_n hx hb dX6_minds_11 rfl (lv_at hl 0 rfl) ?_
      refine lv_bipush (v := 7) hx hb dX6_minds_12 (by decide) ?_
      refine lv_icmp_ge (tgt := 35) hx hb dX6_minds_14 (by decide) (fun c5 => ?_) (fun c5 => ?_)
      · have hf := if_p c5 hf
        have h1 := Option.some.inj hf
        subst h1
        exact kk H locs ls hP hD hS (lv_sub hl [0, 1] rfl)
      · have hf := if_n c5 hf
        refine lv_aload_n hx hb dX6_minds_17 rfl (lv_at hl 1 rfl) ?_
        refine lv_iconst (v := 4) hx hb dX6_minds_18 (by decide) ?_
        refine lv_iload_n hx hb dX6_minds_19 rfl (lv_at hl 0 rfl) ?_
        refine lv_iadd hx hb dX6_minds_20 ?_
        refine lv_iconst (v := 1) hx hb dX6_minds_21 (by decide) ?_
        refine lv_iadd hx hb dX6_minds_22 ?_
        refine lv_iconst (v := 4) hx hb dX6_minds_23 (by decide) ?_
        refine lv_iload_n hx hb dX6_minds_24 rfl (lv_at hl 0 rfl) ?_
        refine lv_iadd hx hb dX6_minds_25 ?_
        obtain ⟨⟨o6, o7⟩, hc8, hf⟩ := bd_inv hf
        refine xcV (As := [.int (((4 : Int32) + x1_11) + 1), .int ((4 : Int32) + x1_11)]) (rest := []) (ws' := [(ma, .inr (6, [.int mst, .int mwy, .int mmk, .int mwt, .ref m1, .ref m2, .ref m3, .ref m4, .int mun, .ref m5, .ref m6, .int mln, .int mfi, .int mbe, .int mrs, .int mrw, .int mcl, .int mdo, .int mnu, .ref m7, .ref m8, .ref m9, .ref m10])), (m1, .inl (cI, 24, .inl mvl)), (m2, .inl (cI, 96, .inl mof)), (m3, .inl (cI, 168, .inl o6)), (m4, .inl (cF, 288, .inr (.inr (.inl o7)))), (m5, .inl (cZ, 2, .inl mik)), (m6, .inl (cI, 200, .inl mtx)), (m7, .inl (cI, 56, .inl mwd)), (m8, .inl (cI, 3, .inl msz)), (m9, .inl (cI, 3, .inl mso)), (m10, .inl (cI, 24, .inl mpl))]) ⟨hx, hb, hml, hown, hts⟩ (c_X6_copy l D B adK adV cC cF cI cZ cM cS ma mst mwy mmk mwt m1 m2 m3 m4 mun m5 m6 mln mfi mbe mrs mrw mcl mdo mnu m7 m8 m9 m10 mvl mof mw_11 mf_11 mik mtx mwd msz mso mpl (((4 : Int32) + x1_11) + 1) ((4 : Int32) + x1_11)  (o6, o7) hc8) (cwV 2 hts gX6_minds_X6_copy rfl rfl rfl (by decide +kernel) ⟨Nat.le_of_ble_eq_true rfl, Nat.le_of_ble_eq_true rfl⟩) (va_recv hK hP (ci := 6) (q0 := 0) rfl rfl) hK hP hD hS hB hE [0, 1, 2, 3, 4, 5, 6, 7, 8, 9, 10] rfl rfl rfl rfl rfl hl.1 rfl (Nat.le_of_ble_eq_true rfl) dX6_minds_26 ⟨Nat.le_of_ble_eq_true rfl, Nat.le_of_ble_eq_true rfl⟩ (fun H locs hP hD hS => ?_)
        refine W.eq (g2 := F0 m 29 ls []) rfl ?_
        refine lv_iinc (v := x1_11 + 1) (lv' := [(1, .int (x1_11 + 1)), (0, .ref ma)]) hx hb dX6_minds_29 hl (k := 0) rfl rfl (by decide) rfl (fun ls hl => ?_)
        refine lv_goto (tgt := 11) hx hb dX6_minds_32 (by decide) ?_
        exact ih (x1_11 + 1) o6 o7 oo hf H locs ls hP hD hS (lv_sub hl [0, 1] rfl) kk
  unfold f_X6_minds at hf
  refine lv_aload_n hx hb dX6_minds_0 rfl (lv_at hl 0 rfl) ?_
  refine va_get (D := D) (ci := 6) (v := .int mun) (C := RX6) (T := TX6) (N := 23) hx hb hts w0 hown hK hP 0 rfl rfl 8 (by decide) w1 (fun _ h9 => h9) rfl dX6_minds_1 ?_
  refine lv_bipush (v := 8) hx hb dX6_minds_4 (by decide) ?_
  refine lv_icmp_ne (tgt := 45) hx hb dX6_minds_6 (by decide) (fun c1 => ?_) (fun c1 => ?_)
  · have hf := if_n c1 hf
    refine lv_aload_n hx hb dX6_minds_45 rfl (lv_at hl 0 rfl) ?_
    refine lv_iconst (v := 0) hx hb dX6_minds_46 (by decide) ?_
    refine lv_iconst (v := 4) hx hb dX6_minds_47 (by decide) ?_
    refine lv_aload_n hx hb dX6_minds_48 rfl (lv_at hl 0 rfl) ?_
    refine va_get (D := D) (ci := 6) (v := .int mun) (C := RX6) (T := TX6) (N := 23) hx hb hts w0 hown hK hP 0 rfl rfl 8 (by decide) w1 (fun _ h9 => h9) rfl dX6_minds_49 ?_
    refine lv_iadd hx hb dX6_minds_52 ?_
    obtain ⟨⟨o2, o3⟩, hc4, hf⟩ := bd_inv hf
    refine xcV (As := [.int 0, .int ((4 : Int32) + mun)]) (rest := []) (ws' := [(ma, .inr (6, [.int mst, .int mwy, .int mmk, .int mwt, .ref m1, .ref m2, .ref m3, .ref m4, .int mun, .ref m5, .ref m6, .int mln, .int mfi, .int mbe, .int mrs, .int mrw, .int mcl, .int mdo, .int mnu, .ref m7, .ref m8, .ref m9, .ref m10])), (m1, .inl (cI, 24, .inl mvl)), (m2, .inl (cI, 96, .inl mof)), (m3, .inl (cI, 168, .inl o2)), (m4, .inl (cF, 288, .inr (.inr (.inl o3)))), (m5, .inl (cZ, 2, .inl mik)), (m6, .inl (cI, 200, .inl mtx)), (m7, .inl (cI, 56, .inl mwd)), (m8, .inl (cI, 3, .inl msz)), (m9, .inl (cI, 3, .inl mso)), (m10, .inl (cI, 24, .inl mpl))]) ⟨hx, hb, hml, hown, hts⟩ (c_X6_copy l D B adK adV cC cF cI cZ cM cS ma mst mwy mmk mwt m1 m2 m3 m4 mun m5 m6 mln mfi mbe mrs mrw mcl mdo mnu m7 m8 m9 m10 mvl mof mw mf mik mtx mwd msz mso mpl 0 ((4 : Int32) + mun)  (o2, o3) hc4) (cwV 2 hts gX6_minds_X6_copy rfl rfl rfl (by decide +kernel) ⟨Nat.le_of_ble_eq_true rfl, Nat.le_of_ble_eq_true rfl⟩) (va_recv hK hP (ci := 6) (q0 := 0) rfl rfl) hK hP hD hS hB hE [0, 1, 2, 3, 4, 5, 6, 7, 8, 9, 10] rfl rfl rfl rfl rfl hl.1 rfl (Nat.le_of_ble_eq_true rfl) dX6_minds_53 ⟨Nat.le_of_ble_eq_true rfl, Nat.le_of_ble_eq_true rfl⟩ (fun H locs hP hD hS => ?_)
    refine W.eq (g2 := F0 m 56 ls []) rfl ?_
    refine lv_aload_n hx hb dX6_minds_56 rfl (lv_at hl 0 rfl) ?_
    refine lv_dup hx hb dX6_minds_57 rfl ?_
    refine va_get (D := D) (ci := 6) (v := .int mun) (C := RX6) (T := TX6) (N := 23) hx hb hts w0 hown hK hP 0 rfl rfl 8 (by decide) w1 (fun _ h9 => h9) rfl dX6_minds_58 ?_
    refine lv_iconst (v := 1) hx hb dX6_minds_61 (by decide) ?_
    refine lv_iadd hx hb dX6_minds_62 ?_
    refine va_put (D := D) (ci := 6) (v := .int (mun + 1)) (ty := .int) (C := RX6) (T := TX6) (N := 23) hx hb hts w0 tyX6 tyX6_ok nmX6 hown hK hP hD hS 0 rfl rfl 8 (by decide) w1 (fun _ h9 => h9) rfl (by decide +kernel) rfl rfl (Nat.le_of_ble_eq_true rfl) dX6_minds_63 (fun H locs hP hD hS => ?_)
    have hP : va_P D vwCl [(ma, .inr (6, [.int mst, .int mwy, .int mmk, .int mwt, .ref m1, .ref m2, .ref m3, .ref m4, .int (mun + 1), .ref m5, .ref m6, .int mln, .int mfi, .int mbe, .int mrs, .int mrw, .int mcl, .int mdo, .int mnu, .ref m7, .ref m8, .ref m9, .ref m10])), (m1, .inl (cI, 24, .inl mvl)), (m2, .inl (cI, 96, .inl mof)), (m3, .inl (cI, 168, .inl o2)), (m4, .inl (cF, 288, .inr (.inr (.inl o3)))), (m5, .inl (cZ, 2, .inl mik)), (m6, .inl (cI, 200, .inl mtx)), (m7, .inl (cI, 56, .inl mwd)), (m8, .inl (cI, 3, .inl msz)), (m9, .inl (cI, 3, .inl mso)), (m10, .inl (cI, 24, .inl mpl))] H := hP
    have hD : va_D A [(ma, .inr (6, [.int mst, .int mwy, .int mmk, .int mwt, .ref m1, .ref m2, .ref m3, .ref m4, .int (mun + 1), .ref m5, .ref m6, .int mln, .int mfi, .int mbe, .int mrs, .int mrw, .int mcl, .int mdo, .int mnu, .ref m7, .ref m8, .ref m9, .ref m10])), (m1, .inl (cI, 24, .inl mvl)), (m2, .inl (cI, 96, .inl mof)), (m3, .inl (cI, 168, .inl o2)), (m4, .inl (cF, 288, .inr (.inr (.inl o3)))), (m5, .inl (cZ, 2, .inl mik)), (m6, .inl (cI, 200, .inl mtx)), (m7, .inl (cI, 56, .inl mwd)), (m8, .inl (cI, 3, .inl msz)), (m9, .inl (cI, 3, .inl mso)), (m10, .inl (cI, 24, .inl mpl))] := hD
    have h1 := Option.some.inj hf
    subst h1
    rw [hQ]
    exact W.vret hx hb hr (fun t ht hW => qEnd hP hS ht) hS.2.2 dX6_minds_66
  · have hf := if_p c1 hf
    refine lv_iconst (v := 0) hx hb dX6_minds_9 (by decide) ?_
    refine lv_istore_n (lv' := [(1, .int 0), (0, .ref ma)]) hx hb dX6_minds_10 rfl hl (by decide) rfl (fun ls hl => ?_)
    obtain ⟨⟨q9, q10, q11⟩, hq15, hf⟩ := bd_inv hf
    refine L11 1000 0 mw mf (q9, q10, q11) hq15 H locs ls hP hD hS (lv_sub hl [0, 1] rfl) (fun H locs ls hP hD hS hl => ?_)
    have hP : va_P D vwCl [(ma, .inr (6, [.int mst, .int mwy, .int mmk, .int mwt, .ref m1, .ref m2, .ref m3, .ref m4, .int mun, .ref m5, .ref m6, .int mln, .int mfi, .int mbe, .int mrs, .int mrw, .int mcl, .int mdo, .int mnu, .ref m7, .ref m8, .ref m9, .ref m10])), (m1, .inl (cI, 24, .inl mvl)), (m2, .inl (cI, 96, .inl mof)), (m3, .inl (cI, 168, .inl q10)), (m4, .inl (cF, 288, .inr (.inr (.inl q11)))), (m5, .inl (cZ, 2, .inl mik)), (m6, .inl (cI, 200, .inl mtx)), (m7, .inl (cI, 56, .inl mwd)), (m8, .inl (cI, 3, .inl msz)), (m9, .inl (cI, 3, .inl mso)), (m10, .inl (cI, 24, .inl mpl))] H := hP
    have hD : va_D A [(ma, .inr (6, [.int mst, .int mwy, .int mmk, .int mwt, .ref m1, .ref m2, .ref m3, .ref m4, .int mun, .ref m5, .ref m6, .int mln, .int mfi, .int mbe, .int mrs, .int mrw, .int mcl, .int mdo, .int mnu, .ref m7, .ref m8, .ref m9, .ref m10])), (m1, .inl (cI, 24, .inl mvl)), (m2, .inl (cI, 96, .inl mof)), (m3, .inl (cI, 168, .inl q10)), (m4, .inl (cF, 288, .inr (.inr (.inl q11)))), (m5, .inl (cZ, 2, .inl mik)), (m6, .inl (cI, 200, .inl mtx)), (m7, .inl (cI, 56, .inl mwd)), (m8, .inl (cI, 3, .inl msz)), (m9, .inl (cI, 3, .inl mso)), (m10, .inl (cI, 24, .inl mpl))] := hD
    have hl : lv_has ls 2 [(1, .int q9), (0, .ref ma)] := hl
    refine lv_aload_n hx hb dX6_minds_35 rfl (lv_at hl 1 rfl) ?_
    refine lv_dup hx hb dX6_minds_36 rfl ?_
    refine va_get (D := D) (ci := 6) (v := .int mun) (C := RX6) (T := TX6) (N := 23) hx hb hts w0 hown hK hP 0 rfl rfl 8 (by decide) w1 (fun _ h9 => h9) rfl dX6_minds_37 ?_
    refine lv_iconst (v := 1) hx hb dX6_minds_40 (by decide) ?_
    refine lv_isub hx hb dX6_minds_41 ?_
    refine va_put (D := D) (ci := 6) (v := .int (mun - 1)) (ty := .int) (C := RX6) (T := TX6) (N := 23) hx hb hts w0 tyX6 tyX6_ok nmX6 hown hK hP hD hS 0 rfl rfl 8 (by decide) w1 (fun _ h9 => h9) rfl (by decide +kernel) rfl rfl (Nat.le_of_ble_eq_true rfl) dX6_minds_42 (fun H locs hP hD hS => ?_)
    have hP : va_P D vwCl [(ma, .inr (6, [.int mst, .int mwy, .int mmk, .int mwt, .ref m1, .ref m2, .ref m3, .ref m4, .int (mun - 1), .ref m5, .ref m6, .int mln, .int mfi, .int mbe, .int mrs, .int mrw, .int mcl, .int mdo, .int mnu, .ref m7, .ref m8, .ref m9, .ref m10])), (m1, .inl (cI, 24, .inl mvl)), (m2, .inl (cI, 96, .inl mof)), (m3, .inl (cI, 168, .inl q10)), (m4, .inl (cF, 288, .inr (.inr (.inl q11)))), (m5, .inl (cZ, 2, .inl mik)), (m6, .inl (cI, 200, .inl mtx)), (m7, .inl (cI, 56, .inl mwd)), (m8, .inl (cI, 3, .inl msz)), (m9, .inl (cI, 3, .inl mso)), (m10, .inl (cI, 24, .inl mpl))] H := hP
    have hD : va_D A [(ma, .inr (6, [.int mst, .int mwy, .int mmk, .int mwt, .ref m1, .ref m2, .ref m3, .ref m4, .int (mun - 1), .ref m5, .ref m6, .int mln, .int mfi, .int mbe, .int mrs, .int mrw, .int mcl, .int mdo, .int mnu, .ref m7, .ref m8, .ref m9, .ref m10])), (m1, .inl (cI, 24, .inl mvl)), (m2, .inl (cI, 96, .inl mof)), (m3, .inl (cI, 168, .inl q10)), (m4, .inl (cF, 288, .inr (.inr (.inl q11)))), (m5, .inl (cZ, 2, .inl mik)), (m6, .inl (cI, 200, .inl mtx)), (m7, .inl (cI, 56, .inl mwd)), (m8, .inl (cI, 3, .inl msz)), (m9, .inl (cI, 3, .inl mso)), (m10, .inl (cI, 24, .inl mpl))] := hD
    refine lv_aload_n hx hb dX6_minds_45 rfl (lv_at hl 1 rfl) ?_
    refine lv_iconst (v := 0) hx hb dX6_minds_46 (by decide) ?_
    refine lv_iconst (v := 4) hx hb dX6_minds_47 (by decide) ?_
    refine lv_aload_n hx hb dX6_minds_48 rfl (lv_at hl 1 rfl) ?_
    refine va_get (D := D) (ci := 6) (v := .int (mun - 1)) (C := RX6) (T := TX6) (N := 23) hx hb hts w0 hown hK hP 0 rfl rfl 8 (by decide) w1 (fun _ h9 => h9) rfl dX6_minds_49 ?_
    refine lv_iadd hx hb dX6_minds_52 ?_
    obtain ⟨⟨o12, o13⟩, hc14, hf⟩ := bd_inv hf
    refine xcV (As := [.int 0, .int ((4 : Int32) + (mun - 1))]) (rest := []) (ws' := [(ma, .inr (6, [.int mst, .int mwy, .int mmk, .int mwt, .ref m1, .ref m2, .ref m3, .ref m4, .int (mun - 1), .ref m5, .ref m6, .int mln, .int mfi, .int mbe, .int mrs, .int mrw, .int mcl, .int mdo, .int mnu, .ref m7, .ref m8, .ref m9, .ref m10])), (m1, .inl (cI, 24, .inl mvl)), (m2, .inl (cI, 96, .inl mof)), (m3, .inl (cI, 168, .inl o12)), (m4, .inl (cF, 288, .inr (.inr (.inl o13)))), (m5, .inl (cZ, 2, .inl mik)), (m6, .inl (cI, 200, .inl mtx)), (m7, .inl (cI, 56, .inl mwd)), (m8, .inl (cI, 3, .inl msz)), (m9, .inl (cI, 3, .inl mso)), (m10, .inl (cI, 24, .inl mpl))]) ⟨hx, hb, hml, hown, hts⟩ (c_X6_copy l D B adK adV cC cF cI cZ cM cS ma mst mwy mmk mwt m1 m2 m3 m4 (mun - 1) m5 m6 mln mfi mbe mrs mrw mcl mdo mnu m7 m8 m9 m10 mvl mof q10 q11 mik mtx mwd msz mso mpl 0 ((4 : Int32) + (mun - 1))  (o12, o13) hc14) (cwV 2 hts gX6_minds_X6_copy rfl rfl rfl (by decide +kernel) ⟨Nat.le_of_ble_eq_true rfl, Nat.le_of_ble_eq_true rfl⟩) (va_recv hK hP (ci := 6) (q0 := 0) rfl rfl) hK hP hD hS hB hE [0, 1, 2, 3, 4, 5, 6, 7, 8, 9, 10] rfl rfl rfl rfl rfl hl.1 rfl (Nat.le_of_ble_eq_true rfl) dX6_minds_53 ⟨Nat.le_of_ble_eq_true rfl, Nat.le_of_ble_eq_true rfl⟩ (fun H locs hP hD hS => ?_)
    refine W.eq (g2 := F0 m 56 ls []) rfl ?_
    refine lv_aload_n hx hb dX6_minds_56 rfl (lv_at hl 1 rfl) ?_
    refine lv_dup hx hb dX6_minds_57 rfl ?_
    refine va_get (D := D) (ci := 6) (v := .int (mun - 1)) (C := RX6) (T := TX6) (N := 23) hx hb hts w0 hown hK hP 0 rfl rfl 8 (by decide) w1 (fun _ h9 => h9) rfl dX6_minds_58 ?_
    refine lv_iconst (v := 1) hx hb dX6_minds_61 (by decide) ?_
    refine lv_iadd hx hb dX6_minds_62 ?_
    refine va_put (D := D) (ci := 6) (v := .int ((mun - 1) + 1)) (ty := .int) (C := RX6) (T := TX6) (N := 23) hx hb hts w0 tyX6 tyX6_ok nmX6 hown hK hP hD hS 0 rfl rfl 8 (by decide) w1 (fun _ h9 => h9) rfl (by decide +kernel) rfl rfl (Nat.le_of_ble_eq_true rfl) dX6_minds_63 (fun H locs hP hD hS => ?_)
    have hP : va_P D vwCl [(ma, .inr (6, [.int mst, .int mwy, .int mmk, .int mwt, .ref m1, .ref m2, .ref m3, .ref m4, .int ((mun - 1) + 1), .ref m5, .ref m6, .int mln, .int mfi, .int mbe, .int mrs, .int mrw, .int mcl, .int mdo, .int mnu, .ref m7, .ref m8, .ref m9, .ref m10])), (m1, .inl (cI, 24, .inl mvl)), (m2, .inl (cI, 96, .inl mof)), (m3, .inl (cI, 168, .inl o12)), (m4, .inl (cF, 288, .inr (.inr (.inl o13)))), (m5, .inl (cZ, 2, .inl mik)), (m6, .inl (cI, 200, .inl mtx)), (m7, .inl (cI, 56, .inl mwd)), (m8, .inl (cI, 3, .inl msz)), (m9, .inl (cI, 3, .inl mso)), (m10, .inl (cI, 24, .inl mpl))] H := hP
    have hD : va_D A [(ma, .inr (6, [.int mst, .int mwy, .int mmk, .int mwt, .ref m1, .ref m2, .ref m3, .ref m4, .int ((mun - 1) + 1), .ref m5, .ref m6, .int mln, .int mfi, .int mbe, .int mrs, .int mrw, .int mcl, .int mdo, .int mnu, .ref m7, .ref m8, .ref m9, .ref m10])), (m1, .inl (cI, 24, .inl mvl)), (m2, .inl (cI, 96, .inl mof)), (m3, .inl (cI, 168, .inl o12)), (m4, .inl (cF, 288, .inr (.inr (.inl o13)))), (m5, .inl (cZ, 2, .inl mik)), (m6, .inl (cI, 200, .inl mtx)), (m7, .inl (cI, 56, .inl mwd)), (m8, .inl (cI, 3, .inl msz)), (m9, .inl (cI, 3, .inl mso)), (m10, .inl (cI, 24, .inl mpl))] := hD
    have h1 := Option.some.inj hf
    subst h1
    rw [hQ]
    exact W.vret hx hb hr (fun t ht hW => qEnd hP hS ht) hS.2.2 dX6_minds_66
set_option maxRecDepth 100000 in
set_option maxHeartbeats 4000000 in
theorem c_X6_set (l : Launch) (D : va_G) (B : Nat) (adK adV : Nat → Nat) (cC cF cI cZ cM cS : ClassId) (ma : Nat) (mst : Int32) (mwy : Int32) (mmk : Int32) (mwt : Int32) (m1 : Nat) (m2 : Nat) (m3 : Nat) (m4 : Nat) (mun : Int32) (m5 : Nat) (m6 : Nat) (mln : Int32) (mfi : Int32) (mbe : Int32) (mrs : Int32) (mrw : Int32) (mcl : Int32) (mdo : Int32) (mnu : Int32) (m7 : Nat) (m8 : Nat) (m9 : Nat) (m10 : Nat) (mvl : Nat → Int32) (mof : Nat → Int32) (mw : Nat → Int32) (mf : Nat → UInt32) (mik : Nat → Int32) (mtx : Nat → Int32) (mwd : Nat → Int32) (msz : Nat → Int32) (mso : Nat → Int32) (mpl : Nat → Int32) (i : Int32) (v : Int32) (zz : Int32 × (Nat → Int32) × (Nat → UInt32) × Int32) (hf : f_X6_set mun mw mf i v = some zz) : Ct l yX6_set wsX6_set { frames := 2, cells := 0, slots := 0, locals := 45 } D B adK adV (tysX cC cF cI cZ cM cS) [.ref ma, .int i, .int v] [(ma, .inr (6, [.int mst, .int mwy, .int mmk, .int mwt, .ref m1, .ref m2, .ref m3, .ref m4, .int mun, .ref m5, .ref m6, .int mln, .int mfi, .int mbe, .int mrs, .int mrw, .int mcl, .int mdo, .int mnu, .ref m7, .ref m8, .ref m9, .ref m10])), (m1, .inl (cI, 24, .inl mvl)), (m2, .inl (cI, 96, .inl mof)), (m3, .inl (cI, 168, .inl mw)), (m4, .inl (cF, 288, .inr (.inr (.inl mf)))), (m5, .inl (cZ, 2, .inl mik)), (m6, .inl (cI, 200, .inl mtx)), (m7, .inl (cI, 56, .inl mwd)), (m8, .inl (cI, 3, .inl msz)), (m9, .inl (cI, 3, .inl mso)), (m10, .inl (cI, 24, .inl mpl))] [(ma, .inr (6, [.int mst, .int mwy, .int mmk, .int mwt, .ref m1, .ref m2, .ref m3, .ref m4, .int zz.2.2.2, .ref m5, .ref m6, .int mln, .int mfi, .int mbe, .int mrs, .int mrw, .int mcl, .int mdo, .int mnu, .ref m7, .ref m8, .ref m9, .ref m10])), (m1, .inl (cI, 24, .inl mvl)), (m2, .inl (cI, 96, .inl mof)), (m3, .inl (cI, 168, .inl zz.2.1)), (m4, .inl (cF, 288, .inr (.inr (.inl zz.2.2.1)))), (m5, .inl (cZ, 2, .inl mik)), (m6, .inl (cI, 200, .inl mtx)), (m7, .inl (cI, 56, .inl mwd)), (m8, .inl (cI, 3, .inl msz)), (m9, .inl (cI, 3, .inl mso)), (m10, .inl (cI, 24, .inl mpl))] (some (.int zz.1)) := by
  refine Ct.ofW (cc := cX6_set) (maxL := 4) (ret := (some .int)) (by decide) rfl (Nat.le_of_ble_eq_true rfl) ?_
  intro p e s m args below meth c hx hb hr hml hts hown hlocks hnm hK hE A Q hQ hB H locs ls hP hD hS hl
  have hl : lv_has ls 4 [(0, .ref ma), (1, .int i), (2, .int v)] := hl
  have w0 := hts (.constantLong RX6 172 (-99)) (by decide +kernel)
  have w1 := hts (.constantLong RX6 174 (99)) (by decide +kernel)
  have w2 : ∀ w ∈ u_ws RX6 TX6 23, w ∈ wsX6_set := by decide +kernel
  have w3 := hts (.fieldLink RX6 20 "MotionStatesModel" "w" "[I") (by decide +kernel)
  unfold f_X6_set at hf
  refine lv_iload_n hx hb dX6_set_0 rfl (lv_at hl 1 rfl) ?_
  obtain ⟨r1, hc2, hf⟩ := bd_inv hf
  refine xcS (As := [.int i]) (rest := []) (ws' := [(ma, .inr (6, [.int mst, .int mwy, .int mmk, .int mwt, .ref m1, .ref m2, .ref m3, .ref m4, .int mun, .ref m5, .ref m6, .int mln, .int mfi, .int mbe, .int mrs, .int mrw, .int mcl, .int mdo, .int mnu, .ref m7, .ref m8, .ref m9, .ref m10])), (m1, .inl (cI, 24, .inl mvl)), (m2, .inl (cI, 96, .inl mof)), (m3, .inl (cI, 168, .inl mw)), (m4, .inl (cF, 288, .inr (.inr (.inl mf)))), (m5, .inl (cZ, 2, .inl mik)), (m6, .inl (cI, 200, .inl mtx)), (m7, .inl (cI, 56, .inl mwd)), (m8, .inl (cI, 3, .inl msz)), (m9, .inl (cI, 3, .inl mso)), (m10, .inl (cI, 24, .inl mpl))]) ⟨hx, hb, hml, hown, hts⟩ (c_X6_isThird l D B adK adV cC cF cI cZ cM cS i  r1 hc2) (va_cwS 1 hts gX6_set_X6_isThird rfl rfl rfl (by decide +kernel) ⟨Nat.le_of_ble_eq_true rfl, Nat.le_of_ble_eq_true rfl⟩) hK hP hD hS hB hE [] rfl rfl rfl rfl rfl hl.1 rfl (Nat.le_of_ble_eq_true rfl) dX6_set_1 ⟨Nat.le_of_ble_eq_true rfl, Nat.le_of_ble_eq_true rfl⟩ (fun H locs hP hD hS => ?_)
  refine W.eq (g2 := F0 m 4 ls [.int r1]) rfl ?_
  refine lv_if_ne (tgt := 10) hx hb dX6_set_4 (by decide) (fun c3 => ?_) (fun c3 => ?_)
  · have hf := if_n c3 hf
    refine lv_iload_n hx hb dX6_set_10 rfl (lv_at hl 2 rfl) ?_
    refine lv_i2l hx hb dX6_set_11 rfl ?_
    refine lv_ldc2 hx hb hown w0 dX6_set_12 ?_
    refine lv_ldc2 hx hb hown w1 dX6_set_15 ?_
    obtain ⟨r4, hc5, hf⟩ := bd_inv hf
    refine xcS (As := [.long (v.toInt64), .long (-99), .long 99]) (rest := []) (ws' := [(ma, .inr (6, [.int mst, .int mwy, .int mmk, .int mwt, .ref m1, .ref m2, .ref m3, .ref m4, .int mun, .ref m5, .ref m6, .int mln, .int mfi, .int mbe, .int mrs, .int mrw, .int mcl, .int mdo, .int mnu, .ref m7, .ref m8, .ref m9, .ref m10])), (m1, .inl (cI, 24, .inl mvl)), (m2, .inl (cI, 96, .inl mof)), (m3, .inl (cI, 168, .inl mw)), (m4, .inl (cF, 288, .inr (.inr (.inl mf)))), (m5, .inl (cZ, 2, .inl mik)), (m6, .inl (cI, 200, .inl mtx)), (m7, .inl (cI, 56, .inl mwd)), (m8, .inl (cI, 3, .inl msz)), (m9, .inl (cI, 3, .inl mso)), (m10, .inl (cI, 24, .inl mpl))]) ⟨hx, hb, hml, hown, hts⟩ (c_X6_in l D B adK adV cC cF cI cZ cM cS (v.toInt64) (-99) 99  r4 hc5) (va_cwS 3 hts gX6_set_X6_in rfl rfl rfl (by decide +kernel) ⟨Nat.le_of_ble_eq_true rfl, Nat.le_of_ble_eq_true rfl⟩) hK hP hD hS hB hE [] rfl rfl rfl rfl rfl hl.1 rfl (Nat.le_of_ble_eq_true rfl) dX6_set_18 ⟨Nat.le_of_ble_eq_true rfl, Nat.le_of_ble_eq_true rfl⟩ (fun H locs hP hD hS => ?_)
    refine W.eq (g2 := F0 m 21 ls [.int r4]) rfl ?_
    refine lv_if_ne (tgt := 27) hx hb dX6_set_21 (by decide) (fun c6 => ?_) (fun c6 => ?_)
    · have hf := if_n c6 hf
      refine lv_aload_n hx hb dX6_set_27 rfl (lv_at hl 0 rfl) ?_
      refine va_get (D := D) (ci := 6) (v := .ref m3) (C := RX6) (T := TX6) (N := 23) hx hb hts w2 hown hK hP 0 rfl rfl 6 (by decide) w3 (fun _ h9 => h9) rfl dX6_set_28 ?_
      refine lv_bipush (v := 10) hx hb dX6_set_31 (by decide) ?_
      refine lv_iload_n hx hb dX6_set_33 rfl (lv_at hl 1 rfl) ?_
      refine lv_iadd hx hb dX6_set_34 ?_
      obtain ⟨g7, hf⟩ := gd_inv hf
      refine va_iald hx hb hK hP 3 2 rfl rfl g7 dX6_set_35 ?_
      refine lv_istore_n (lv' := [(3, .int (mw (((10 : Int32) + i).toNatClampNeg))), (0, .ref ma), (1, .int i), (2, .int v)]) hx hb dX6_set_36 rfl hl (by decide) rfl (fun ls hl => ?_)
      refine lv_iload_n hx hb dX6_set_37 rfl (lv_at hl 0 rfl) ?_
      refine lv_iload_n hx hb dX6_set_38 rfl (lv_at hl 3 rfl) ?_
      refine lv_icmp_ne (tgt := 45) hx hb dX6_set_39 (by decide) (fun c8 => ?_) (fun c8 => ?_)
      · have hf := if_n c8 hf
        refine lv_aload_n hx hb dX6_set_45 rfl (lv_at hl 1 rfl) ?_
        obtain ⟨⟨o9, o10, o11⟩, hc12, hf⟩ := bd_inv hf
        refine xcV (As := []) (rest := []) (ws' := [(ma, .inr (6, [.int mst, .int mwy, .int mmk, .int mwt, .ref m1, .ref m2, .ref m3, .ref m4, .int o11, .ref m5, .ref m6, .int mln, .int mfi, .int mbe, .int mrs, .int mrw, .int mcl, .int mdo, .int mnu, .ref m7, .ref m8, .ref m9, .ref m10])), (m1, .inl (cI, 24, .inl mvl)), (m2, .inl (cI, 96, .inl mof)), (m3, .inl (cI, 168, .inl o9)), (m4, .inl (cF, 288, .inr (.inr (.inl o10)))), (m5, .inl (cZ, 2, .inl mik)), (m6, .inl (cI, 200, .inl mtx)), (m7, .inl (cI, 56, .inl mwd)), (m8, .inl (cI, 3, .inl msz)), (m9, .inl (cI, 3, .inl mso)), (m10, .inl (cI, 24, .inl mpl))]) ⟨hx, hb, hml, hown, hts⟩ (c_X6_minds l D B adK adV cC cF cI cZ cM cS ma mst mwy mmk mwt m1 m2 m3 m4 mun m5 m6 mln mfi mbe mrs mrw mcl mdo mnu m7 m8 m9 m10 mvl mof mw mf mik mtx mwd msz mso mpl  (o9, o10, o11) hc12) (cwV 0 hts gX6_set_X6_minds rfl rfl rfl (by decide +kernel) ⟨Nat.le_of_ble_eq_true rfl, Nat.le_of_ble_eq_true rfl⟩) (va_recv hK hP (ci := 6) (q0 := 0) rfl rfl) hK hP hD hS hB hE [0, 1, 2, 3, 4, 5, 6, 7, 8, 9, 10] rfl rfl rfl rfl rfl hl.1 rfl (Nat.le_of_ble_eq_true rfl) dX6_set_46 ⟨Nat.le_of_ble_eq_true rfl, Nat.le_of_ble_eq_true rfl⟩ (fun H locs hP hD hS => ?_)
        refine W.eq (g2 := F0 m 49 ls []) rfl ?_
        refine lv_aload_n hx hb dX6_set_49 rfl (lv_at hl 1 rfl) ?_
        refine va_get (D := D) (ci := 6) (v := .ref m3) (C := RX6) (T := TX6) (N := 23) hx hb hts w2 hown hK hP 0 rfl rfl 6 (by decide) w3 (fun _ h9 => h9) rfl dX6_set_50 ?_
        refine lv_bipush (v := 10) hx hb dX6_set_53 (by decide) ?_
        refine lv_iload_n hx hb dX6_set_55 rfl (lv_at hl 2 rfl) ?_
        refine lv_iadd hx hb dX6_set_56 ?_
        refine lv_iload_n hx hb dX6_set_57 rfl (lv_at hl 3 rfl) ?_
        obtain ⟨g13, hf⟩ := gd_inv hf
        refine va_iast hx hb hK hP hD hS 3 2 rfl rfl g13 dX6_set_58 (fun H locs hP hD hS => ?_)
        have hP : va_P D vwCl [(ma, .inr (6, [.int mst, .int mwy, .int mmk, .int mwt, .ref m1, .ref m2, .ref m3, .ref m4, .int o11, .ref m5, .ref m6, .int mln, .int mfi, .int mbe, .int mrs, .int mrw, .int mcl, .int mdo, .int mnu, .ref m7, .ref m8, .ref m9, .ref m10])), (m1, .inl (cI, 24, .inl mvl)), (m2, .inl (cI, 96, .inl mof)), (m3, .inl (cI, 168, .inl (upd o9 (((10 : Int32) + i).toNatClampNeg) v))), (m4, .inl (cF, 288, .inr (.inr (.inl o10)))), (m5, .inl (cZ, 2, .inl mik)), (m6, .inl (cI, 200, .inl mtx)), (m7, .inl (cI, 56, .inl mwd)), (m8, .inl (cI, 3, .inl msz)), (m9, .inl (cI, 3, .inl mso)), (m10, .inl (cI, 24, .inl mpl))] H := hP
        have hD : va_D A [(ma, .inr (6, [.int mst, .int mwy, .int mmk, .int mwt, .ref m1, .ref m2, .ref m3, .ref m4, .int o11, .ref m5, .ref m6, .int mln, .int mfi, .int mbe, .int mrs, .int mrw, .int mcl, .int mdo, .int mnu, .ref m7, .ref m8, .ref m9, .ref m10])), (m1, .inl (cI, 24, .inl mvl)), (m2, .inl (cI, 96, .inl mof)), (m3, .inl (cI, 168, .inl (upd o9 (((10 : Int32) + i).toNatClampNeg) v))), (m4, .inl (cF, 288, .inr (.inr (.inl o10)))), (m5, .inl (cZ, 2, .inl mik)), (m6, .inl (cI, 200, .inl mtx)), (m7, .inl (cI, 56, .inl mwd)), (m8, .inl (cI, 3, .inl msz)), (m9, .inl (cI, 3, .inl mso)), (m10, .inl (cI, 24, .inl mpl))] := hD
        refine lv_iload_n hx hb dX6_set_59 rfl (lv_at hl 0 rfl) ?_
        refine lv_bipush (v := 100) hx hb dX6_set_60 (by decide) ?_
        refine lv_iadd hx hb dX6_set_62 ?_
        have h1 := Option.some.inj hf
        subst h1
        rw [hQ]
        exact W.iret (v := ((mw (((10 : Int32) + i).toNatClampNeg)) + 100)) hx hb hr (fun t ht hW => qEnd hP hS ht) hS.2.2 dX6_set_63
      · have hf := if_p c8 hf
        refine lv_bipush (v := (-4)) hx hb dX6_set_42 (by decide) ?_
        have h1 := Option.some.inj hf
        subst h1
        rw [hQ]
        exact W.iret (v := (-4)) hx hb hr (fun t ht hW => qEnd hP hS ht) hS.2.2 dX6_set_44
    · have hf := if_p c6 hf
      refine lv_bipush (v := (-3)) hx hb dX6_set_24 (by decide) ?_
      have h1 := Option.some.inj hf
      subst h1
      rw [hQ]
      exact W.iret (v := (-3)) hx hb hr (fun t ht hW => qEnd hP hS ht) hS.2.2 dX6_set_26
  · have hf := if_p c3 hf
    refine lv_bipush (v := (-2)) hx hb dX6_set_7 (by decide) ?_
    have h1 := Option.some.inj hf
    subst h1
    rw [hQ]
    exact W.iret (v := (-2)) hx hb hr (fun t ht hW => qEnd hP hS ht) hS.2.2 dX6_set_9
set_option maxRecDepth 100000 in
set_option maxHeartbeats 4000000 in
theorem c_X6_pull (l : Launch) (D : va_G) (B : Nat) (adK adV : Nat → Nat) (cC cF cI cZ cM cS : ClassId) (ma : Nat) (mst : Int32) (mwy : Int32) (mmk : Int32) (mwt : Int32) (m1 : Nat) (m2 : Nat) (m3 : Nat) (m4 : Nat) (mun : Int32) (m5 : Nat) (m6 : Nat) (mln : Int32) (mfi : Int32) (mbe : Int32) (mrs : Int32) (mrw : Int32) (mcl : Int32) (mdo : Int32) (mnu : Int32) (m7 : Nat) (m8 : Nat) (m9 : Nat) (m10 : Nat) (mvl : Nat → Int32) (mof : Nat → Int32) (mw : Nat → Int32) (mf : Nat → UInt32) (mik : Nat → Int32) (mtx : Nat → Int32) (mwd : Nat → Int32) (msz : Nat → Int32) (mso : Nat → Int32) (mpl : Nat → Int32) (i : Int32) (zz : Int32 × (Nat → Int32) × (Nat → UInt32) × Int32) (hf : f_X6_pull mun mw mf i = some zz) : Ct l yX6_pull wsX6_pull { frames := 2, cells := 0, slots := 0, locals := 45 } D B adK adV (tysX cC cF cI cZ cM cS) [.ref ma, .int i] [(ma, .inr (6, [.int mst, .int mwy, .int mmk, .int mwt, .ref m1, .ref m2, .ref m3, .ref m4, .int mun, .ref m5, .ref m6, .int mln, .int mfi, .int mbe, .int mrs, .int mrw, .int mcl, .int mdo, .int mnu, .ref m7, .ref m8, .ref m9, .ref m10])), (m1, .inl (cI, 24, .inl mvl)), (m2, .inl (cI, 96, .inl mof)), (m3, .inl (cI, 168, .inl mw)), (m4, .inl (cF, 288, .inr (.inr (.inl mf)))), (m5, .inl (cZ, 2, .inl mik)), (m6, .inl (cI, 200, .inl mtx)), (m7, .inl (cI, 56, .inl mwd)), (m8, .inl (cI, 3, .inl msz)), (m9, .inl (cI, 3, .inl mso)), (m10, .inl (cI, 24, .inl mpl))] [(ma, .inr (6, [.int mst, .int mwy, .int mmk, .int mwt, .ref m1, .ref m2, .ref m3, .ref m4, .int zz.2.2.2, .ref m5, .ref m6, .int mln, .int mfi, .int mbe, .int mrs, .int mrw, .int mcl, .int mdo, .int mnu, .ref m7, .ref m8, .ref m9, .ref m10])), (m1, .inl (cI, 24, .inl mvl)), (m2, .inl (cI, 96, .inl mof)), (m3, .inl (cI, 168, .inl zz.2.1)), (m4, .inl (cF, 288, .inr (.inr (.inl zz.2.2.1)))), (m5, .inl (cZ, 2, .inl mik)), (m6, .inl (cI, 200, .inl mtx)), (m7, .inl (cI, 56, .inl mwd)), (m8, .inl (cI, 3, .inl msz)), (m9, .inl (cI, 3, .inl mso)), (m10, .inl (cI, 24, .inl mpl))] (some (.int zz.1)) := by
  refine Ct.ofW (cc := cX6_pull) (maxL := 2) (ret := (some .int)) (by decide) rfl (Nat.le_of_ble_eq_true rfl) ?_
  intro p e s m args below meth c hx hb hr hml hts hown hlocks hnm hK hE A Q hQ hB H locs ls hP hD hS hl
  have hl : lv_has ls 2 [(0, .ref ma), (1, .int i)] := hl
  have w0 : ∀ w ∈ u_ws RX6 TX6 23, w ∈ wsX6_pull := by decide +kernel
  have w1 := hts (.fieldLink RX6 20 "MotionStatesModel" "w" "[I") (by decide +kernel)
  unfold f_X6_pull at hf
  refine lv_iload_n hx hb dX6_pull_0 rfl (lv_at hl 1 rfl) ?_
  obtain ⟨r1, hc2, hf⟩ := bd_inv hf
  refine xcS (As := [.int i]) (rest := []) (ws' := [(ma, .inr (6, [.int mst, .int mwy, .int mmk, .int mwt, .ref m1, .ref m2, .ref m3, .ref m4, .int mun, .ref m5, .ref m6, .int mln, .int mfi, .int mbe, .int mrs, .int mrw, .int mcl, .int mdo, .int mnu, .ref m7, .ref m8, .ref m9, .ref m10])), (m1, .inl (cI, 24, .inl mvl)), (m2, .inl (cI, 96, .inl mof)), (m3, .inl (cI, 168, .inl mw)), (m4, .inl (cF, 288, .inr (.inr (.inl mf)))), (m5, .inl (cZ, 2, .inl mik)), (m6, .inl (cI, 200, .inl mtx)), (m7, .inl (cI, 56, .inl mwd)), (m8, .inl (cI, 3, .inl msz)), (m9, .inl (cI, 3, .inl mso)), (m10, .inl (cI, 24, .inl mpl))]) ⟨hx, hb, hml, hown, hts⟩ (c_X6_isThird l D B adK adV cC cF cI cZ cM cS i  r1 hc2) (va_cwS 1 hts gX6_pull_X6_isThird rfl rfl rfl (by decide +kernel) ⟨Nat.le_of_ble_eq_true rfl, Nat.le_of_ble_eq_true rfl⟩) hK hP hD hS hB hE [] rfl rfl rfl rfl rfl hl.1 rfl (Nat.le_of_ble_eq_true rfl) dX6_pull_1 ⟨Nat.le_of_ble_eq_true rfl, Nat.le_of_ble_eq_true rfl⟩ (fun H locs hP hD hS => ?_)
  refine W.eq (g2 := F0 m 4 ls [.int r1]) rfl ?_
  refine lv_if_ne (tgt := 10) hx hb dX6_pull_4 (by decide) (fun c3 => ?_) (fun c3 => ?_)
  · have hf := if_n c3 hf
    refine lv_aload_n hx hb dX6_pull_10 rfl (lv_at hl 0 rfl) ?_
    refine va_get (D := D) (ci := 6) (v := .ref m3) (C := RX6) (T := TX6) (N := 23) hx hb hts w0 hown hK hP 0 rfl rfl 6 (by decide) w1 (fun _ h9 => h9) rfl dX6_pull_11 ?_
    refine lv_bipush (v := 13) hx hb dX6_pull_14 (by decide) ?_
    refine va_iald hx hb hK hP 3 2 rfl rfl (show iok 13 168 by decide) dX6_pull_16 ?_
    refine W.eq (g2 := F0 m 17 ls (.int (mw 13) :: [])) rfl ?_
    refine lv_iload_n hx hb dX6_pull_17 rfl (lv_at hl 1 rfl) ?_
    obtain ⟨r4, hc5, hf⟩ := bd_inv hf
    refine xcS (As := [.int (mw 13), .int i]) (rest := []) (ws' := [(ma, .inr (6, [.int mst, .int mwy, .int mmk, .int mwt, .ref m1, .ref m2, .ref m3, .ref m4, .int mun, .ref m5, .ref m6, .int mln, .int mfi, .int mbe, .int mrs, .int mrw, .int mcl, .int mdo, .int mnu, .ref m7, .ref m8, .ref m9, .ref m10])), (m1, .inl (cI, 24, .inl mvl)), (m2, .inl (cI, 96, .inl mof)), (m3, .inl (cI, 168, .inl mw)), (m4, .inl (cF, 288, .inr (.inr (.inl mf)))), (m5, .inl (cZ, 2, .inl mik)), (m6, .inl (cI, 200, .inl mtx)), (m7, .inl (cI, 56, .inl mwd)), (m8, .inl (cI, 3, .inl msz)), (m9, .inl (cI, 3, .inl mso)), (m10, .inl (cI, 24, .inl mpl))]) ⟨hx, hb, hml, hown, hts⟩ (c_X6_has l D B adK adV cC cF cI cZ cM cS (mw 13) i  r4 hc5) (va_cwS 2 hts gX6_pull_X6_has rfl rfl rfl (by decide +kernel) ⟨Nat.le_of_ble_eq_true rfl, Nat.le_of_ble_eq_true rfl⟩) hK hP hD hS hB hE [] rfl rfl rfl rfl rfl hl.1 rfl (Nat.le_of_ble_eq_true rfl) dX6_pull_18 ⟨Nat.le_of_ble_eq_true rfl, Nat.le_of_ble_eq_true rfl⟩ (fun H locs hP hD hS => ?_)
    refine W.eq (g2 := F0 m 21 ls [.int r4]) rfl ?_
    refine lv_if_eq (tgt := 27) hx hb dX6_pull_21 (by decide) (fun c6 => ?_) (fun c6 => ?_)
    · have hf := if_p c6 hf
      refine lv_aload_n hx hb dX6_pull_27 rfl (lv_at hl 0 rfl) ?_
      obtain ⟨⟨o7, o8, o9⟩, hc10, hf⟩ := bd_inv hf
      refine xcV (As := []) (rest := []) (ws' := [(ma, .inr (6, [.int mst, .int mwy, .int mmk, .int mwt, .ref m1, .ref m2, .ref m3, .ref m4, .int o9, .ref m5, .ref m6, .int mln, .int mfi, .int mbe, .int mrs, .int mrw, .int mcl, .int mdo, .int mnu, .ref m7, .ref m8, .ref m9, .ref m10])), (m1, .inl (cI, 24, .inl mvl)), (m2, .inl (cI, 96, .inl mof)), (m3, .inl (cI, 168, .inl o7)), (m4, .inl (cF, 288, .inr (.inr (.inl o8)))), (m5, .inl (cZ, 2, .inl mik)), (m6, .inl (cI, 200, .inl mtx)), (m7, .inl (cI, 56, .inl mwd)), (m8, .inl (cI, 3, .inl msz)), (m9, .inl (cI, 3, .inl mso)), (m10, .inl (cI, 24, .inl mpl))]) ⟨hx, hb, hml, hown, hts⟩ (c_X6_minds l D B adK adV cC cF cI cZ cM cS ma mst mwy mmk mwt m1 m2 m3 m4 mun m5 m6 mln mfi mbe mrs mrw mcl mdo mnu m7 m8 m9 m10 mvl mof mw mf mik mtx mwd msz mso mpl  (o7, o8, o9) hc10) (cwV 0 hts gX6_pull_X6_minds rfl rfl rfl (by decide +kernel) ⟨Nat.le_of_ble_eq_true rfl, Nat.le_of_ble_eq_true rfl⟩) (va_recv hK hP (ci := 6) (q0 := 0) rfl rfl) hK hP hD hS hB hE [0, 1, 2, 3, 4, 5, 6, 7, 8, 9, 10] rfl rfl rfl rfl rfl hl.1 rfl (Nat.le_of_ble_eq_true rfl) dX6_pull_28 ⟨Nat.le_of_ble_eq_true rfl, Nat.le_of_ble_eq_true rfl⟩ (fun H locs hP hD hS => ?_)
      refine W.eq (g2 := F0 m 31 ls []) rfl ?_
      refine lv_aload_n hx hb dX6_pull_31 rfl (lv_at hl 0 rfl) ?_
      refine va_get (D := D) (ci := 6) (v := .ref m3) (C := RX6) (T := TX6) (N := 23) hx hb hts w0 hown hK hP 0 rfl rfl 6 (by decide) w1 (fun _ h9 => h9) rfl dX6_pull_32 ?_
      refine lv_bipush (v := 13) hx hb dX6_pull_35 (by decide) ?_
      refine lv_dup2_11 hx hb dX6_pull_37 rfl rfl ?_
      refine va_iald hx hb hK hP 3 2 rfl rfl (show iok 13 168 by decide) dX6_pull_38 ?_
      refine W.eq (g2 := F0 m 39 ls (.int (o7 13) :: .int 13 :: .ref m3 :: [])) rfl ?_
      refine lv_iconst (v := 1) hx hb dX6_pull_39 (by decide) ?_
      refine lv_iload_n hx hb dX6_pull_40 rfl (lv_at hl 1 rfl) ?_
      refine lv_ishl hx hb dX6_pull_41 ?_
      refine lv_ior hx hb dX6_pull_42 ?_
      refine va_iast hx hb hK hP hD hS 3 2 rfl rfl (show iok 13 168 by decide) dX6_pull_43 (fun H locs hP hD hS => ?_)
      have hP : va_P D vwCl [(ma, .inr (6, [.int mst, .int mwy, .int mmk, .int mwt, .ref m1, .ref m2, .ref m3, .ref m4, .int o9, .ref m5, .ref m6, .int mln, .int mfi, .int mbe, .int mrs, .int mrw, .int mcl, .int mdo, .int mnu, .ref m7, .ref m8, .ref m9, .ref m10])), (m1, .inl (cI, 24, .inl mvl)), (m2, .inl (cI, 96, .inl mof)), (m3, .inl (cI, 168, .inl (upd o7 13 ((o7 13) ||| ((1 : Int32) <<< (i &&& 31)))))), (m4, .inl (cF, 288, .inr (.inr (.inl o8)))), (m5, .inl (cZ, 2, .inl mik)), (m6, .inl (cI, 200, .inl mtx)), (m7, .inl (cI, 56, .inl mwd)), (m8, .inl (cI, 3, .inl msz)), (m9, .inl (cI, 3, .inl mso)), (m10, .inl (cI, 24, .inl mpl))] H := hP
      have hD : va_D A [(ma, .inr (6, [.int mst, .int mwy, .int mmk, .int mwt, .ref m1, .ref m2, .ref m3, .ref m4, .int o9, .ref m5, .ref m6, .int mln, .int mfi, .int mbe, .int mrs, .int mrw, .int mcl, .int mdo, .int mnu, .ref m7, .ref m8, .ref m9, .ref m10])), (m1, .inl (cI, 24, .inl mvl)), (m2, .inl (cI, 96, .inl mof)), (m3, .inl (cI, 168, .inl (upd o7 13 ((o7 13) ||| ((1 : Int32) <<< (i &&& 31)))))), (m4, .inl (cF, 288, .inr (.inr (.inl o8)))), (m5, .inl (cZ, 2, .inl mik)), (m6, .inl (cI, 200, .inl mtx)), (m7, .inl (cI, 56, .inl mwd)), (m8, .inl (cI, 3, .inl msz)), (m9, .inl (cI, 3, .inl mso)), (m10, .inl (cI, 24, .inl mpl))] := hD
      refine lv_iconst (v := 1) hx hb dX6_pull_44 (by decide) ?_
      have h1 := Option.some.inj hf
      subst h1
      rw [hQ]
      exact W.iret (v := 1) hx hb hr (fun t ht hW => qEnd hP hS ht) hS.2.2 dX6_pull_45
    · have hf := if_n c6 hf
      refine lv_bipush (v := (-4)) hx hb dX6_pull_24 (by decide) ?_
      have h1 := Option.some.inj hf
      subst h1
      rw [hQ]
      exact W.iret (v := (-4)) hx hb hr (fun t ht hW => qEnd hP hS ht) hS.2.2 dX6_pull_26
  · have hf := if_p c3 hf
    refine lv_bipush (v := (-2)) hx hb dX6_pull_7 (by decide) ?_
    have h1 := Option.some.inj hf
    subst h1
    rw [hQ]
    exact W.iret (v := (-2)) hx hb hr (fun t ht hW => qEnd hP hS ht) hS.2.2 dX6_pull_9
set_option maxRecDepth 100000 in
set_option maxHeartbeats 4000000 in
theorem c_X6_holds (l : Launch) (D : va_G) (B : Nat) (adK adV : Nat → Nat) (cC cF cI cZ cM cS : ClassId) (ma : Nat) (mst : Int32) (mwy : Int32) (mmk : Int32) (mwt : Int32) (m1 : Nat) (m2 : Nat) (m3 : Nat) (m4 : Nat) (mun : Int32) (m5 : Nat) (m6 : Nat) (mln : Int32) (mfi : Int32) (mbe : Int32) (mrs : Int32) (mrw : Int32) (mcl : Int32) (mdo : Int32) (mnu : Int32) (m7 : Nat) (m8 : Nat) (m9 : Nat) (m10 : Nat) (mvl : Nat → Int32) (mof : Nat → Int32) (mw : Nat → Int32) (mf : Nat → UInt32) (mik : Nat → Int32) (mtx : Nat → Int32) (mwd : Nat → Int32) (msz : Nat → Int32) (mso : Nat → Int32) (mpl : Nat → Int32) (i : Int32) (k : Int32) (j : Int32) (zz : Int32) (hf : f_X6_holds mof mw i k j = some zz) : Ct l yX6_holds wsX6_holds { frames := 1, cells := 0, slots := 0, locals := 21 } D B adK adV (tysX cC cF cI cZ cM cS) [.ref ma, .int i, .int k, .int j] [(ma, .inr (6, [.int mst, .int mwy, .int mmk, .int mwt, .ref m1, .ref m2, .ref m3, .ref m4, .int mun, .ref m5, .ref m6, .int mln, .int mfi, .int mbe, .int mrs, .int mrw, .int mcl, .int mdo, .int mnu, .ref m7, .ref m8, .ref m9, .ref m10])), (m1, .inl (cI, 24, .inl mvl)), (m2, .inl (cI, 96, .inl mof)), (m3, .inl (cI, 168, .inl mw)), (m4, .inl (cF, 288, .inr (.inr (.inl mf)))), (m5, .inl (cZ, 2, .inl mik)), (m6, .inl (cI, 200, .inl mtx)), (m7, .inl (cI, 56, .inl mwd)), (m8, .inl (cI, 3, .inl msz)), (m9, .inl (cI, 3, .inl mso)), (m10, .inl (cI, 24, .inl mpl))] [(ma, .inr (6, [.int mst, .int mwy, .int mmk, .int mwt, .ref m1, .ref m2, .ref m3, .ref m4, .int mun, .ref m5, .ref m6, .int mln, .int mfi, .int mbe, .int mrs, .int mrw, .int mcl, .int mdo, .int mnu, .ref m7, .ref m8, .ref m9, .ref m10])), (m1, .inl (cI, 24, .inl mvl)), (m2, .inl (cI, 96, .inl mof)), (m3, .inl (cI, 168, .inl mw)), (m4, .inl (cF, 288, .inr (.inr (.inl mf)))), (m5, .inl (cZ, 2, .inl mik)), (m6, .inl (cI, 200, .inl mtx)), (m7, .inl (cI, 56, .inl mwd)), (m8, .inl (cI, 3, .inl msz)), (m9, .inl (cI, 3, .inl mso)), (m10, .inl (cI, 24, .inl mpl))] (some (.int zz)) := by
  refine Ct.ofW (cc := cX6_holds) (maxL := 7) (ret := (some .boolean)) (by decide) rfl (Nat.le_of_ble_eq_true rfl) ?_
  intro p e s m args below meth c hx hb hr hml hts hown hlocks hnm hK hE A Q hQ hB H locs ls hP hD hS hl
  have hl : lv_has ls 7 [(0, .ref ma), (1, .int i), (2, .int k), (3, .int j)] := hl
  have w0 : ∀ w ∈ u_ws RX6 TX6 23, w ∈ wsX6_holds := by decide +kernel
  have w1 := hts (.fieldLink RX6 17 "MotionStatesModel" "of" "[I") (by decide +kernel)
  have w2 := hts (.fieldLink RX6 20 "MotionStatesModel" "w" "[I") (by decide +kernel)
  unfold f_X6_holds at hf
  refine lv_bipush (v := 14) hx hb dX6_holds_0 (by decide) ?_
  refine lv_iload_n hx hb dX6_holds_2 rfl (lv_at hl 1 rfl) ?_
  refine lv_imul hx hb dX6_holds_3 ?_
  refine lv_istore (lv' := [(4, .int ((14 : Int32) * i)), (0, .ref ma), (1, .int i), (2, .int k), (3, .int j)]) hx hb dX6_holds_4 hl (by decide) rfl (fun ls hl => ?_)
  refine lv_aload_n hx hb dX6_holds_6 rfl (lv_at hl 1 rfl) ?_
  refine va_get (D := D) (ci := 6) (v := .ref m2) (C := RX6) (T := TX6) (N := 23) hx hb hts w0 hown hK hP 0 rfl rfl 5 (by decide) w1 (fun _ h9 => h9) rfl dX6_holds_7 ?_
  refine lv_bipush (v := 8) hx hb dX6_holds_10 (by decide) ?_
  refine lv_iload_n hx hb dX6_holds_12 rfl (lv_at hl 4 rfl) ?_
  refine lv_imul hx hb dX6_holds_13 ?_
  refine lv_iconst (v := 5) hx hb dX6_holds_14 (by decide) ?_
  refine lv_iadd hx hb dX6_holds_15 ?_
  obtain ⟨g1, hf⟩ := gd_inv hf
  refine va_iald hx hb hK hP 2 2 rfl rfl g1 dX6_holds_16 ?_
  refine lv_istore (lv' := [(5, .int (mof ((((8 : Int32) * j) + 5).toNatClampNeg))), (4, .int ((14 : Int32) * i)), (0, .ref ma), (1, .int i), (2, .int k), (3, .int j)]) hx hb dX6_holds_17 hl (by decide) rfl (fun ls hl => ?_)
  refine lv_aload_n hx hb dX6_holds_19 rfl (lv_at hl 2 rfl) ?_
  refine va_get (D := D) (ci := 6) (v := .ref m2) (C := RX6) (T := TX6) (N := 23) hx hb hts w0 hown hK hP 0 rfl rfl 5 (by decide) w1 (fun _ h9 => h9) rfl dX6_holds_20 ?_
  refine lv_bipush (v := 8) hx hb dX6_holds_23 (by decide) ?_
  refine lv_iload_n hx hb dX6_holds_25 rfl (lv_at hl 5 rfl) ?_
  refine lv_imul hx hb dX6_holds_26 ?_
  refine lv_bipush (v := 6) hx hb dX6_holds_27 (by decide) ?_
  refine lv_iadd hx hb dX6_holds_29 ?_
  obtain ⟨g2, hf⟩ := gd_inv hf
  refine va_iald hx hb hK hP 2 2 rfl rfl g2 dX6_holds_30 ?_
  refine lv_istore (lv' := [(6, .int (mof ((((8 : Int32) * j) + 6).toNatClampNeg))), (5, .int (mof ((((8 : Int32) * j) + 5).toNatClampNeg))), (4, .int ((14 : Int32) * i)), (0, .ref ma), (1, .int i), (2, .int k), (3, .int j)]) hx hb dX6_holds_31 hl (by decide) rfl (fun ls hl => ?_)
  refine lv_aload_n hx hb dX6_holds_33 rfl (lv_at hl 3 rfl) ?_
  refine va_get (D := D) (ci := 6) (v := .ref m2) (C := RX6) (T := TX6) (N := 23) hx hb hts w0 hown hK hP 0 rfl rfl 5 (by decide) w1 (fun _ h9 => h9) rfl dX6_holds_34 ?_
  refine lv_bipush (v := 8) hx hb dX6_holds_37 (by decide) ?_
  refine lv_iload_n hx hb dX6_holds_39 rfl (lv_at hl 6 rfl) ?_
  refine lv_imul hx hb dX6_holds_40 ?_
  refine lv_iconst (v := 4) hx hb dX6_holds_41 (by decide) ?_
  refine lv_iadd hx hb dX6_holds_42 ?_
  obtain ⟨g3, hf⟩ := gd_inv hf
  refine va_iald hx hb hK hP 2 2 rfl rfl g3 dX6_holds_43 ?_
  by_cases c4 : (mof ((((8 : Int32) * j) + 4).toNatClampNeg)) = 0
  · have hf := if_p c4 hf
    refine lv_tableIn (off := 28) (tgt := 72) hx hb dX6_holds_44 (by rw [c4]; decide) (by rw [c4]; decide) (by rw [c4]; decide) (by decide) ?_
    refine lv_aload_n hx hb dX6_holds_72 rfl (lv_at hl 3 rfl) ?_
    refine va_get (D := D) (ci := 6) (v := .ref m3) (C := RX6) (T := TX6) (N := 23) hx hb hts w0 hown hK hP 0 rfl rfl 6 (by decide) w2 (fun _ h9 => h9) rfl dX6_holds_73 ?_
    refine lv_iload hx hb dX6_holds_76 (lv_at hl 2 rfl) ?_
    refine lv_iconst (v := 5) hx hb dX6_holds_78 (by decide) ?_
    refine lv_iload_n hx hb dX6_holds_79 rfl (lv_at hl 5 rfl) ?_
    refine lv_imul hx hb dX6_holds_80 ?_
    refine lv_iadd hx hb dX6_holds_81 ?_
    refine lv_iconst (v := 1) hx hb dX6_holds_82 (by decide) ?_
    refine lv_iadd hx hb dX6_holds_83 ?_
    obtain ⟨g5, hf⟩ := gd_inv hf
    refine va_iald hx hb hK hP 3 2 rfl rfl g5 dX6_holds_84 ?_
    refine lv_iload hx hb dX6_holds_85 (lv_at hl 0 rfl) ?_
    refine lv_icmp_lt (tgt := 94) hx hb dX6_holds_87 (by decide) (fun c6 => ?_) (fun c6 => ?_)
    · have hf := if_p c6 hf
      refine lv_iconst (v := 0) hx hb dX6_holds_94 (by decide) ?_
      have h1 := Option.some.inj hf
      subst h1
      rw [hQ]
      exact W.zret (v := 0) (ty := .boolean) hx hb hr rfl (fun t ht hW => qEnd hP hS ht) hS.2.2 dX6_holds_95
    · have hf := if_n c6 hf
      refine lv_iconst (v := 1) hx hb dX6_holds_90 (by decide) ?_
      refine lv_goto (tgt := 95) hx hb dX6_holds_91 (by decide) ?_
      have h1 := Option.some.inj hf
      subst h1
      rw [hQ]
      exact W.zret (v := 1) (ty := .boolean) hx hb hr rfl (fun t ht hW => qEnd hP hS ht) hS.2.2 dX6_holds_95
  · have hf := if_n c4 hf
    by_cases c7 : (mof ((((8 : Int32) * j) + 4).toNatClampNeg)) = 1
    · have hf := if_p c7 hf
      refine lv_tableIn (off := 52) (tgt := 96) hx hb dX6_holds_44 (by rw [c7]; decide) (by rw [c7]; decide) (by rw [c7]; decide) (by decide) ?_
      refine lv_aload_n hx hb dX6_holds_96 rfl (lv_at hl 3 rfl) ?_
      refine va_get (D := D) (ci := 6) (v := .ref m3) (C := RX6) (T := TX6) (N := 23) hx hb hts w0 hown hK hP 0 rfl rfl 6 (by decide) w2 (fun _ h9 => h9) rfl dX6_holds_97 ?_
      refine lv_iload hx hb dX6_holds_100 (lv_at hl 2 rfl) ?_
      refine lv_bipush (v := 10) hx hb dX6_holds_102 (by decide) ?_
      refine lv_iadd hx hb dX6_holds_104 ?_
      refine lv_iload hx hb dX6_holds_105 (lv_at hl 1 rfl) ?_
      refine lv_iadd hx hb dX6_holds_107 ?_
      obtain ⟨g8, hf⟩ := gd_inv hf
      refine va_iald hx hb hK hP 3 2 rfl rfl g8 dX6_holds_108 ?_
      refine lv_iload hx hb dX6_holds_109 (lv_at hl 0 rfl) ?_
      refine lv_icmp_le (tgt := 118) hx hb dX6_holds_111 (by decide) (fun c9 => ?_) (fun c9 => ?_)
      · have hf := if_p c9 hf
        refine lv_iconst (v := 0) hx hb dX6_holds_118 (by decide) ?_
        have h1 := Option.some.inj hf
        subst h1
        rw [hQ]
        exact W.zret (v := 0) (ty := .boolean) hx hb hr rfl (fun t ht hW => qEnd hP hS ht) hS.2.2 dX6_holds_119
      · have hf := if_n c9 hf
        refine lv_iconst (v := 1) hx hb dX6_holds_114 (by decide) ?_
        refine lv_goto (tgt := 119) hx hb dX6_holds_115 (by decide) ?_
        have h1 := Option.some.inj hf
        subst h1
        rw [hQ]
        exact W.zret (v := 1) (ty := .boolean) hx hb hr rfl (fun t ht hW => qEnd hP hS ht) hS.2.2 dX6_holds_119
    · have hf := if_n c7 hf
      by_cases c10 : (mof ((((8 : Int32) * j) + 4).toNatClampNeg)) = 2
      · have hf := if_p c10 hf
        refine lv_tableIn (off := 76) (tgt := 120) hx hb dX6_holds_44 (by rw [c10]; decide) (by rw [c10]; decide) (by rw [c10]; decide) (by decide) ?_
        refine lv_aload_n hx hb dX6_holds_120 rfl (lv_at hl 3 rfl) ?_
        refine va_get (D := D) (ci := 6) (v := .ref m3) (C := RX6) (T := TX6) (N := 23) hx hb hts w0 hown hK hP 0 rfl rfl 6 (by decide) w2 (fun _ h9 => h9) rfl dX6_holds_121 ?_
        refine lv_iload hx hb dX6_holds_124 (lv_at hl 2 rfl) ?_
        refine lv_bipush (v := 10) hx hb dX6_holds_126 (by decide) ?_
        refine lv_iadd hx hb dX6_holds_128 ?_
        refine lv_iload hx hb dX6_holds_129 (lv_at hl 1 rfl) ?_
        refine lv_iadd hx hb dX6_holds_131 ?_
        obtain ⟨g11, hf⟩ := gd_inv hf
        refine va_iald hx hb hK hP 3 2 rfl rfl g11 dX6_holds_132 ?_
        refine lv_iload hx hb dX6_holds_133 (lv_at hl 0 rfl) ?_
        refine lv_icmp_ge (tgt := 142) hx hb dX6_holds_135 (by decide) (fun c12 => ?_) (fun c12 => ?_)
        · have hf := if_p c12 hf
          refine lv_iconst (v := 0) hx hb dX6_holds_142 (by decide) ?_
          have h1 := Option.some.inj hf
          subst h1
          rw [hQ]
          exact W.zret (v := 0) (ty := .boolean) hx hb hr rfl (fun t ht hW => qEnd hP hS ht) hS.2.2 dX6_holds_143
        · have hf := if_n c12 hf
          refine lv_iconst (v := 1) hx hb dX6_holds_138 (by decide) ?_
          refine lv_goto (tgt := 143) hx hb dX6_holds_139 (by decide) ?_
          have h1 := Option.some.inj hf
          subst h1
          rw [hQ]
          exact W.zret (v := 1) (ty := .boolean) hx hb hr rfl (fun t ht hW => qEnd hP hS ht) hS.2.2 dX6_holds_143
      · have hf := if_n c10 hf
        refine lv_tableOut (tgt := 144) hx hb dX6_holds_44 (by have h0 := lv_neT c4 (a := 0) rfl; have h1 := lv_neT c7 (a := 1) rfl; have h2 := lv_neT c10 (a := 2) rfl; omega) (by decide) ?_
        refine lv_aload_n hx hb dX6_holds_144 rfl (lv_at hl 3 rfl) ?_
        refine va_get (D := D) (ci := 6) (v := .ref m3) (C := RX6) (T := TX6) (N := 23) hx hb hts w0 hown hK hP 0 rfl rfl 6 (by decide) w2 (fun _ h9 => h9) rfl dX6_holds_145 ?_
        refine lv_iload hx hb dX6_holds_148 (lv_at hl 2 rfl) ?_
        refine lv_bipush (v := 13) hx hb dX6_holds_150 (by decide) ?_
        refine lv_iadd hx hb dX6_holds_152 ?_
        obtain ⟨g13, hf⟩ := gd_inv hf
        refine va_iald hx hb hK hP 3 2 rfl rfl g13 dX6_holds_153 ?_
        refine lv_iload hx hb dX6_holds_154 (lv_at hl 1 rfl) ?_
        obtain ⟨r14, hc15, hf⟩ := bd_inv hf
        refine xcS (As := [.int (mw ((((14 : Int32) * i) + 13).toNatClampNeg)), .int (mof ((((8 : Int32) * j) + 5).toNatClampNeg))]) (rest := []) (ws' := [(ma, .inr (6, [.int mst, .int mwy, .int mmk, .int mwt, .ref m1, .ref m2, .ref m3, .ref m4, .int mun, .ref m5, .ref m6, .int mln, .int mfi, .int mbe, .int mrs, .int mrw, .int mcl, .int mdo, .int mnu, .ref m7, .ref m8, .ref m9, .ref m10])), (m1, .inl (cI, 24, .inl mvl)), (m2, .inl (cI, 96, .inl mof)), (m3, .inl (cI, 168, .inl mw)), (m4, .inl (cF, 288, .inr (.inr (.inl mf)))), (m5, .inl (cZ, 2, .inl mik)), (m6, .inl (cI, 200, .inl mtx)), (m7, .inl (cI, 56, .inl mwd)), (m8, .inl (cI, 3, .inl msz)), (m9, .inl (cI, 3, .inl mso)), (m10, .inl (cI, 24, .inl mpl))]) ⟨hx, hb, hml, hown, hts⟩ (c_X6_has l D B adK adV cC cF cI cZ cM cS (mw ((((14 : Int32) * i) + 13).toNatClampNeg)) (mof ((((8 : Int32) * j) + 5).toNatClampNeg))  r14 hc15) (va_cwS 2 hts gX6_holds_X6_has rfl rfl rfl (by decide +kernel) ⟨Nat.le_of_ble_eq_true rfl, Nat.le_of_ble_eq_true rfl⟩) hK hP hD hS hB hE [] rfl rfl rfl rfl rfl hl.1 rfl (Nat.le_of_ble_eq_true rfl) dX6_holds_156 ⟨Nat.le_of_ble_eq_true rfl, Nat.le_of_ble_eq_true rfl⟩ (fun H locs hP hD hS => ?_)
        refine W.eq (g2 := F0 m 159 ls [.int r14]) rfl ?_
        obtain ⟨g16, hf⟩ := gd_inv hf
        have h1 := Option.some.inj hf
        subst h1
        rw [hQ]
        exact W.zret (v := r14) (ty := .boolean) hx hb hr (zok_n g16) (fun t ht hW => qEnd hP hS ht) hS.2.2 dX6_holds_159
set_option maxRecDepth 100000 in
set_option maxHeartbeats 4000000 in
theorem c_X6_taken (l : Launch) (D : va_G) (B : Nat) (adK adV : Nat → Nat) (cC cF cI cZ cM cS : ClassId) (ma : Nat) (mst : Int32) (mwy : Int32) (mmk : Int32) (mwt : Int32) (m1 : Nat) (m2 : Nat) (m3 : Nat) (m4 : Nat) (mun : Int32) (m5 : Nat) (m6 : Nat) (mln : Int32) (mfi : Int32) (mbe : Int32) (mrs : Int32) (mrw : Int32) (mcl : Int32) (mdo : Int32) (mnu : Int32) (m7 : Nat) (m8 : Nat) (m9 : Nat) (m10 : Nat) (mvl : Nat → Int32) (mof : Nat → Int32) (mw : Nat → Int32) (mf : Nat → UInt32) (mik : Nat → Int32) (mtx : Nat → Int32) (mwd : Nat → Int32) (msz : Nat → Int32) (mso : Nat → Int32) (mpl : Nat → Int32) (i : Int32) (k : Int32) (zz : Int32) (hf : f_X6_taken mwy mof mw i k = some zz) : Ct l yX6_taken wsX6_taken { frames := 2, cells := 0, slots := 0, locals := 47 } D B adK adV (tysX cC cF cI cZ cM cS) [.ref ma, .int i, .int k] [(ma, .inr (6, [.int mst, .int mwy, .int mmk, .int mwt, .ref m1, .ref m2, .ref m3, .ref m4, .int mun, .ref m5, .ref m6, .int mln, .int mfi, .int mbe, .int mrs, .int mrw, .int mcl, .int mdo, .int mnu, .ref m7, .ref m8, .ref m9, .ref m10])), (m1, .inl (cI, 24, .inl mvl)), (m2, .inl (cI, 96, .inl mof)), (m3, .inl (cI, 168, .inl mw)), (m4, .inl (cF, 288, .inr (.inr (.inl mf)))), (m5, .inl (cZ, 2, .inl mik)), (m6, .inl (cI, 200, .inl mtx)), (m7, .inl (cI, 56, .inl mwd)), (m8, .inl (cI, 3, .inl msz)), (m9, .inl (cI, 3, .inl mso)), (m10, .inl (cI, 24, .inl mpl))] [(ma, .inr (6, [.int mst, .int mwy, .int mmk, .int mwt, .ref m1, .ref m2, .ref m3, .ref m4, .int mun, .ref m5, .ref m6, .int mln, .int mfi, .int mbe, .int mrs, .int mrw, .int mcl, .int mdo, .int mnu, .ref m7, .ref m8, .ref m9, .ref m10])), (m1, .inl (cI, 24, .inl mvl)), (m2, .inl (cI, 96, .inl mof)), (m3, .inl (cI, 168, .inl mw)), (m4, .inl (cF, 288, .inr (.inr (.inl mf)))), (m5, .inl (cZ, 2, .inl mik)), (m6, .inl (cI, 200, .inl mtx)), (m7, .inl (cI, 56, .inl mwd)), (m8, .inl (cI, 3, .inl msz)), (m9, .inl (cI, 3, .inl mso)), (m10, .inl (cI, 24, .inl mpl))] (some (.int zz)) := by
  refine Ct.ofW (cc := cX6_taken) (maxL := 6) (ret := (some .int)) (by decide) rfl (Nat.le_of_ble_eq_true rfl) ?_
  intro p e s m args below meth c hx hb hr hml hts hown hlocks hnm hK hE A Q hQ hB H locs ls hP hD hS hl
  have hl : lv_has ls 6 [(0, .ref ma), (1, .int i), (2, .int k)] := hl
  have w0 : ∀ w ∈ u_ws RX6 TX6 23, w ∈ wsX6_taken := by decide +kernel
  have w1 := hts (.fieldLink RX6 20 "MotionStatesModel" "w" "[I") (by decide +kernel)
  have w2 := hts (.fieldLink RX6 147 "MotionStatesModel" "ways" "I") (by decide +kernel)
  have w3 := hts (.fieldLink RX6 17 "MotionStatesModel" "of" "[I") (by decide +kernel)
  have L19 : ∀ (n : Nat) (x4_19 : Int32), f_X6_taken_L19 mwy mof mw i k n x4_19 = some zz → ∀ (H : Heap) (locs : List Loc) (ls : Array Slot), va_P D vwCl [(ma, .inr (6, [.int mst, .int mwy, .int mmk, .int mwt, .ref m1, .ref m2, .ref m3, .ref m4, .int mun, .ref m5, .ref m6, .int mln, .int mfi, .int mbe, .int mrs, .int mrw, .int mcl, .int mdo, .int mnu, .ref m7, .ref m8, .ref m9, .ref m10])), (m1, .inl (cI, 24, .inl mvl)), (m2, .inl (cI, 96, .inl mof)), (m3, .inl (cI, 168, .inl mw)), (m4, .inl (cF, 288, .inr (.inr (.inl mf)))), (m5, .inl (cZ, 2, .inl mik)), (m6, .inl (cI, 200, .inl mtx)), (m7, .inl (cI, 56, .inl mwd)), (m8, .inl (cI, 3, .inl msz)), (m9, .inl (cI, 3, .inl mso)), (m10, .inl (cI, 24, .inl mpl))] H → va_D A [(ma, .inr (6, [.int mst, .int mwy, .int mmk, .int mwt, .ref m1, .ref m2, .ref m3, .ref m4, .int mun, .ref m5, .ref m6, .int mln, .int mfi, .int mbe, .int mrs, .int mrw, .int mcl, .int mdo, .int mnu, .ref m7, .ref m8, .ref m9, .ref m10])), (m1, .inl (cI, 24, .inl mvl)), (m2, .inl (cI, 96, .inl mof)), (m3, .inl (cI, 168, .inl mw)), (m4, .inl (cF, 288, .inr (.inr (.inl mf)))), (m5, .inl (cZ, 2, .inl mik)), (m6, .inl (cI, 200, .inl mtx)), (m7, .inl (cI, 56, .inl mwd)), (m8, .inl (cI, 3, .inl msz)), (m9, .inl (cI, 3, .inl mso)), (m10, .inl (cI, 24, .inl mpl))] → va_S A s.heap H locs → lv_has ls 6 [(4, .int x4_19), (3, .int (mw (((((14 : Int32) * i) + ((5 : Int32) * k)) + 0).toNatClampNeg))), (0, .ref ma), (1, .int i), (2, .int k)] → W p l e { frames := 2, cells := 0, slots := 0, locals := 47 } s m args below meth c H locs 0 0 Q (F0 m 19 ls []) := by
    intro n
    induction n with
    | zero => intro x4_19 hf; exact absurd hf (by simp [f_X6_taken_L19])
    | succ n ih =>
      intro x4_19 hf H locs ls hP hD hS hl
      rw [f_X6_taken_L19] at hf
      refine lv_iload hx hb dX6_taken_19 (lv_at hl 0 rfl) ?_
      refine lv_aload_n hx hb dX6_taken_21 rfl (lv_at hl 2 rfl) ?_
      refine va_get (D := D) (ci := 6) (v := .int mwy) (C := RX6) (T := TX6) (N := 23) hx hb hts w0 hown hK hP 0 rfl rfl 1 (by decide) w2 (fun _ h9 => h9) rfl dX6_taken_22 ?_
      refine lv_icmp_ge (tgt := 91) hx hb dX6_taken_25 (by decide) (fun c2 => ?_) (fun c2 => ?_)
      · have hf := if_p c2 hf
        refine lv_iconst (v := (-1)) hx hb dX6_taken_91 (by decide) ?_
        have h1 := Option.some.inj hf
        subst h1
        rw [hQ]
        exact W.iret (v := (-1)) hx hb hr (fun t ht hW => qEnd hP hS ht) hS.2.2 dX6_taken_92
      · have hf := if_n c2 hf
        refine lv_aload_n hx hb dX6_taken_28 rfl (lv_at hl 2 rfl) ?_
        refine va_get (D := D) (ci := 6) (v := .ref m2) (C := RX6) (T := TX6) (N := 23) hx hb hts w0 hown hK hP 0 rfl rfl 5 (by decide) w3 (fun _ h9 => h9) rfl dX6_taken_29 ?_
        refine lv_bipush (v := 8) hx hb dX6_taken_32 (by decide) ?_
        refine lv_iload hx hb dX6_taken_34 (lv_at hl 0 rfl) ?_
        refine lv_imul hx hb dX6_taken_36 ?_
        refine lv_iconst (v := 0) hx hb dX6_taken_37 (by decide) ?_
        refine lv_iadd hx hb dX6_taken_38 ?_
        obtain ⟨g3, hf⟩ := gd_inv hf
        refine va_iald hx hb hK hP 2 2 rfl rfl g3 dX6_taken_39 ?_
        refine lv_istore (lv' := [(5, .int (mof ((((8 : Int32) * x4_19) + 0).toNatClampNeg))), (4, .int x4_19), (3, .int (mw (((((14 : Int32) * i) + ((5 : Int32) * k)) + 0).toNatClampNeg))), (0, .ref ma), (1, .int i), (2, .int k)]) hx hb dX6_taken_40 hl (by decide) rfl (fun ls hl => ?_)
        refine lv_iload hx hb dX6_taken_42 (lv_at hl 0 rfl) ?_
        refine lv_iload_n hx hb dX6_taken_44 rfl (lv_at hl 2 rfl) ?_
        refine lv_icmp_eq (tgt := 55) hx hb dX6_taken_45 (by decide) (fun c4 => ?_) (fun c4 => ?_)
        · have hf := if_p c4 hf
          refine lv_aload_n hx hb dX6_taken_55 rfl (lv_at hl 3 rfl) ?_
          refine va_get (D := D) (ci := 6) (v := .ref m2) (C := RX6) (T := TX6) (N := 23) hx hb hts w0 hown hK hP 0 rfl rfl 5 (by decide) w3 (fun _ h9 => h9) rfl dX6_taken_56 ?_
          refine lv_bipush (v := 8) hx hb dX6_taken_59 (by decide) ?_
          refine lv_iload hx hb dX6_taken_61 (lv_at hl 1 rfl) ?_
          refine lv_imul hx hb dX6_taken_63 ?_
          refine lv_iconst (v := 1) hx hb dX6_taken_64 (by decide) ?_
          refine lv_iadd hx hb dX6_taken_65 ?_
          obtain ⟨g5, hf⟩ := gd_inv hf
          refine va_iald hx hb hK hP 2 2 rfl rfl g5 dX6_taken_66 ?_
          refine lv_iload_n hx hb dX6_taken_67 rfl (lv_at hl 2 rfl) ?_
          refine lv_icmp_eq (tgt := 85) hx hb dX6_taken_68 (by decide) (fun c6 => ?_) (fun c6 => ?_)
          · have hf := if_p c6 hf
            refine lv_iinc (v := x4_19 + 1) (lv' := [(4, .int (x4_19 + 1)), (5, .int (mof ((((8 : Int32) * x4_19) + 0).toNatClampNeg))), (3, .int (mw (((((14 : Int32) * i) + ((5 : Int32) * k)) + 0).toNatClampNeg))), (0, .ref ma), (1, .int i), (2, .int k)]) hx hb dX6_taken_85 hl (k := 1) rfl rfl (by decide) rfl (fun ls hl => ?_)
            refine lv_goto (tgt := 19) hx hb dX6_taken_88 (by decide) ?_
            exact ih (x4_19 + 1) hf H locs ls hP hD hS (lv_sub hl [0, 2, 3, 4, 5] rfl)
          · have hf := if_n c6 hf
            refine lv_aload_n hx hb dX6_taken_71 rfl (lv_at hl 3 rfl) ?_
            refine lv_iload_n hx hb dX6_taken_72 rfl (lv_at hl 4 rfl) ?_
            refine lv_iload_n hx hb dX6_taken_73 rfl (lv_at hl 5 rfl) ?_
            refine lv_iload hx hb dX6_taken_74 (lv_at hl 1 rfl) ?_
            obtain ⟨r7, hc8, hf⟩ := bd_inv hf
            refine xcV (As := [.int i, .int k, .int x4_19]) (rest := []) (ws' := [(ma, .inr (6, [.int mst, .int mwy, .int mmk, .int mwt, .ref m1, .ref m2, .ref m3, .ref m4, .int mun, .ref m5, .ref m6, .int mln, .int mfi, .int mbe, .int mrs, .int mrw, .int mcl, .int mdo, .int mnu, .ref m7, .ref m8, .ref m9, .ref m10])), (m1, .inl (cI, 24, .inl mvl)), (m2, .inl (cI, 96, .inl mof)), (m3, .inl (cI, 168, .inl mw)), (m4, .inl (cF, 288, .inr (.inr (.inl mf)))), (m5, .inl (cZ, 2, .inl mik)), (m6, .inl (cI, 200, .inl mtx)), (m7, .inl (cI, 56, .inl mwd)), (m8, .inl (cI, 3, .inl msz)), (m9, .inl (cI, 3, .inl mso)), (m10, .inl (cI, 24, .inl mpl))]) ⟨hx, hb, hml, hown, hts⟩ (c_X6_holds l D B adK adV cC cF cI cZ cM cS ma mst mwy mmk mwt m1 m2 m3 m4 mun m5 m6 mln mfi mbe mrs mrw mcl mdo mnu m7 m8 m9 m10 mvl mof mw mf mik mtx mwd msz mso mpl i k x4_19  r7 hc8) (cwV 3 hts gX6_taken_X6_holds rfl rfl rfl (by decide +kernel) ⟨Nat.le_of_ble_eq_true rfl, Nat.le_of_ble_eq_true rfl⟩) (va_recv hK hP (ci := 6) (q0 := 0) rfl rfl) hK hP hD hS hB hE [0, 1, 2, 3, 4, 5, 6, 7, 8, 9, 10] rfl rfl rfl rfl rfl hl.1 rfl (Nat.le_of_ble_eq_true rfl) dX6_taken_76 ⟨Nat.le_of_ble_eq_true rfl, Nat.le_of_ble_eq_true rfl⟩ (fun H locs hP hD hS => ?_)
            refine W.eq (g2 := F0 m 79 ls [.int r7]) rfl ?_
            refine lv_if_eq (tgt := 85) hx hb dX6_taken_79 (by decide) (fun c9 => ?_) (fun c9 => ?_)
            · have hf := if_p c9 hf
              refine lv_iinc (v := x4_19 + 1) (lv' := [(4, .int (x4_19 + 1)), (5, .int (mof ((((8 : Int32) * x4_19) + 0).toNatClampNeg))), (3, .int (mw (((((14 : Int32) * i) + ((5 : Int32) * k)) + 0).toNatClampNeg))), (0, .ref ma), (1, .int i), (2, .int k)]) hx hb dX6_taken_85 hl (k := 1) rfl rfl (by decide) rfl (fun ls hl => ?_)
              refine lv_goto (tgt := 19) hx hb dX6_taken_88 (by decide) ?_
              exact ih (x4_19 + 1) hf H locs ls hP hD hS (lv_sub hl [0, 2, 3, 4, 5] rfl)
            · have hf := if_n c9 hf
              refine lv_iload hx hb dX6_taken_82 (lv_at hl 1 rfl) ?_
              have h1 := Option.some.inj hf
              subst h1
              rw [hQ]
              exact W.iret (v := x4_19) hx hb hr (fun t ht hW => qEnd hP hS ht) hS.2.2 dX6_taken_84
        · have hf := if_n c4 hf
          refine lv_iload hx hb dX6_taken_48 (lv_at hl 0 rfl) ?_
          refine lv_bipush (v := 9) hx hb dX6_taken_50 (by decide) ?_
          refine lv_icmp_ne (tgt := 85) hx hb dX6_taken_52 (by decide) (fun c10 => ?_) (fun c10 => ?_)
          · have hf := if_n c10 hf
            refine lv_iinc (v := x4_19 + 1) (lv' := [(4, .int (x4_19 + 1)), (5, .int (mof ((((8 : Int32) * x4_19) + 0).toNatClampNeg))), (3, .int (mw (((((14 : Int32) * i) + ((5 : Int32) * k)) + 0).toNatClampNeg))), (0, .ref ma), (1, .int i), (2, .int k)]) hx hb dX6_taken_85 hl (k := 1) rfl rfl (by decide) rfl (fun ls hl => ?_)
            refine lv_goto (tgt := 19) hx hb dX6_taken_88 (by decide) ?_
            exact ih (x4_19 + 1) hf H locs ls hP hD hS (lv_sub hl [0, 2, 3, 4, 5] rfl)
          · have hf := if_p c10 hf
            refine lv_aload_n hx hb dX6_taken_55 rfl (lv_at hl 3 rfl) ?_
            refine va_get (D := D) (ci := 6) (v := .ref m2) (C := RX6) (T := TX6) (N := 23) hx hb hts w0 hown hK hP 0 rfl rfl 5 (by decide) w3 (fun _ h9 => h9) rfl dX6_taken_56 ?_
            refine lv_bipush (v := 8) hx hb dX6_taken_59 (by decide) ?_
            refine lv_iload hx hb dX6_taken_61 (lv_at hl 1 rfl) ?_
            refine lv_imul hx hb dX6_taken_63 ?_
            refine lv_iconst (v := 1) hx hb dX6_taken_64 (by decide) ?_
            refine lv_iadd hx hb dX6_taken_65 ?_
            obtain ⟨g11, hf⟩ := gd_inv hf
            refine va_iald hx hb hK hP 2 2 rfl rfl g11 dX6_taken_66 ?_
            refine lv_iload_n hx hb dX6_taken_67 rfl (lv_at hl 2 rfl) ?_
            refine lv_icmp_eq (tgt := 85) hx hb dX6_taken_68 (by decide) (fun c12 => ?_) (fun c12 => ?_)
            · have hf := if_p c12 hf
              refine lv_iinc (v := x4_19 + 1) (lv' := [(4, .int (x4_19 + 1)), (5, .int (mof ((((8 : Int32) * x4_19) + 0).toNatClampNeg))), (3, .int (mw (((((14 : Int32) * i) + ((5 : Int32) * k)) + 0).toNatClampNeg))), (0, .ref ma), (1, .int i), (2, .int k)]) hx hb dX6_taken_85 hl (k := 1) rfl rfl (by decide) rfl (fun ls hl => ?_)
              refine lv_goto (tgt := 19) hx hb dX6_taken_88 (by decide) ?_
              exact ih (x4_19 + 1) hf H locs ls hP hD hS (lv_sub hl [0, 2, 3, 4, 5] rfl)
            · have hf := if_n c12 hf
              refine lv_aload_n hx hb dX6_taken_71 rfl (lv_at hl 3 rfl) ?_
              refine lv_iload_n hx hb dX6_taken_72 rfl (lv_at hl 4 rfl) ?_
              refine lv_iload_n hx hb dX6_taken_73 rfl (lv_at hl 5 rfl) ?_
              refine lv_iload hx hb dX6_taken_74 (lv_at hl 1 rfl) ?_
              obtain ⟨r13, hc14, hf⟩ := bd_inv hf
              refine xcV (As := [.int i, .int k, .int x4_19]) (rest := []) (ws' := [(ma, .inr (6, [.int mst, .int mwy, .int mmk, .int mwt, .ref m1, .ref m2, .ref m3, .ref m4, .int mun, .ref m5, .ref m6, .int mln, .int mfi, .int mbe, .int mrs, .int mrw, .int mcl, .int mdo, .int mnu, .ref m7, .ref m8, .ref m9, .ref m10])), (m1, .inl (cI, 24, .inl mvl)), (m2, .inl (cI, 96, .inl mof)), (m3, .inl (cI, 168, .inl mw)), (m4, .inl (cF, 288, .inr (.inr (.inl mf)))), (m5, .inl (cZ, 2, .inl mik)), (m6, .inl (cI, 200, .inl mtx)), (m7, .inl (cI, 56, .inl mwd)), (m8, .inl (cI, 3, .inl msz)), (m9, .inl (cI, 3, .inl mso)), (m10, .inl (cI, 24, .inl mpl))]) ⟨hx, hb, hml, hown, hts⟩ (c_X6_holds l D B adK adV cC cF cI cZ cM cS ma mst mwy mmk mwt m1 m2 m3 m4 mun m5 m6 mln mfi mbe mrs mrw mcl mdo mnu m7 m8 m9 m10 mvl mof mw mf mik mtx mwd msz mso mpl i k x4_19  r13 hc14) (cwV 3 hts gX6_taken_X6_holds rfl rfl rfl (by decide +kernel) ⟨Nat.le_of_ble_eq_true rfl, Nat.le_of_ble_eq_true rfl⟩) (va_recv hK hP (ci := 6) (q0 := 0) rfl rfl) hK hP hD hS hB hE [0, 1, 2, 3, 4, 5, 6, 7, 8, 9, 10] rfl rfl rfl rfl rfl hl.1 rfl (Nat.le_of_ble_eq_true rfl) dX6_taken_76 ⟨Nat.le_of_ble_eq_true rfl, Nat.le_of_ble_eq_true rfl⟩ (fun H locs hP hD hS => ?_)
              refine W.eq (g2 := F0 m 79 ls [.int r13]) rfl ?_
              refine lv_if_eq (tgt := 85) hx hb dX6_taken_79 (by decide) (fun c15 => ?_) (fun c15 => ?_)
              · have hf := if_p c15 hf
                refine lv_iinc (v := x4_19 + 1) (lv' := [(4, .int (x4_19 + 1)), (5, .int (mof ((((8 : Int32) * x4_19) + 0).toNatClampNeg))), (3, .int (mw (((((14 : Int32) * i) + ((5 : Int32) * k)) + 0).toNatClampNeg))), (0, .ref ma), (1, .int i), (2, .int k)]) hx hb dX6_taken_85 hl (k := 1) rfl rfl (by decide) rfl (fun ls hl => ?_)
                refine lv_goto (tgt := 19) hx hb dX6_taken_88 (by decide) ?_
                exact ih (x4_19 + 1) hf H locs ls hP hD hS (lv_sub hl [0, 2, 3, 4, 5] rfl)
              · have hf := if_n c15 hf
                refine lv_iload hx hb dX6_taken_82 (lv_at hl 1 rfl) ?_
                have h1 := Option.some.inj hf
                subst h1
                rw [hQ]
                exact W.iret (v := x4_19) hx hb hr (fun t ht hW => qEnd hP hS ht) hS.2.2 dX6_taken_84
  unfold f_X6_taken at hf
  refine lv_aload_n hx hb dX6_taken_0 rfl (lv_at hl 0 rfl) ?_
  refine va_get (D := D) (ci := 6) (v := .ref m3) (C := RX6) (T := TX6) (N := 23) hx hb hts w0 hown hK hP 0 rfl rfl 6 (by decide) w1 (fun _ h9 => h9) rfl dX6_taken_1 ?_
  refine lv_bipush (v := 14) hx hb dX6_taken_4 (by decide) ?_
  refine lv_iload_n hx hb dX6_taken_6 rfl (lv_at hl 1 rfl) ?_
  refine lv_imul hx hb dX6_taken_7 ?_
  refine lv_iconst (v := 5) hx hb dX6_taken_8 (by decide) ?_
  refine lv_iload_n hx hb dX6_taken_9 rfl (lv_at hl 2 rfl) ?_
  refine lv_imul hx hb dX6_taken_10 ?_
  refine lv_iadd hx hb dX6_taken_11 ?_
  refine lv_iconst (v := 0) hx hb dX6_taken_12 (by decide) ?_
  refine lv_iadd hx hb dX6_taken_13 ?_
  obtain ⟨g1, hf⟩ := gd_inv hf
  refine va_iald hx hb hK hP 3 2 rfl rfl g1 dX6_taken_14 ?_
  refine lv_istore_n (lv' := [(3, .int (mw (((((14 : Int32) * i) + ((5 : Int32) * k)) + 0).toNatClampNeg))), (0, .ref ma), (1, .int i), (2, .int k)]) hx hb dX6_taken_15 rfl hl (by decide) rfl (fun ls hl => ?_)
  refine lv_iconst (v := 0) hx hb dX6_taken_16 (by decide) ?_
  refine lv_istore (lv' := [(4, .int 0), (3, .int (mw (((((14 : Int32) * i) + ((5 : Int32) * k)) + 0).toNatClampNeg))), (0, .ref ma), (1, .int i), (2, .int k)]) hx hb dX6_taken_17 hl (by decide) rfl (fun ls hl => ?_)
  exact L19 1000 0 hf H locs ls hP hD hS (lv_sub hl [0, 1, 2, 3, 4] rfl)
set_option maxRecDepth 100000 in
set_option maxHeartbeats 4000000 in
theorem c_X6_steadies (l : Launch) (D : va_G) (B : Nat) (adK adV : Nat → Nat) (cC cF cI cZ cM cS : ClassId) (ma : Nat) (mst : Int32) (mwy : Int32) (mmk : Int32) (mwt : Int32) (m1 : Nat) (m2 : Nat) (m3 : Nat) (m4 : Nat) (mun : Int32) (m5 : Nat) (m6 : Nat) (mln : Int32) (mfi : Int32) (mbe : Int32) (mrs : Int32) (mrw : Int32) (mcl : Int32) (mdo : Int32) (mnu : Int32) (m7 : Nat) (m8 : Nat) (m9 : Nat) (m10 : Nat) (mvl : Nat → Int32) (mof : Nat → Int32) (mw : Nat → Int32) (mf : Nat → UInt32) (mik : Nat → Int32) (mtx : Nat → Int32) (mwd : Nat → Int32) (msz : Nat → Int32) (mso : Nat → Int32) (mpl : Nat → Int32) (i : Int32) (k : Int32) (zz : (Nat → Int32) × (Nat → UInt32)) (hf : f_X6_steadies mw mf i k = some zz) : Ct l yX6_steadies wsX6_steadies { frames := 0, cells := 0, slots := 0, locals := 0 } D B adK adV (tysX cC cF cI cZ cM cS) [.ref ma, .int i, .int k] [(ma, .inr (6, [.int mst, .int mwy, .int mmk, .int mwt, .ref m1, .ref m2, .ref m3, .ref m4, .int mun, .ref m5, .ref m6, .int mln, .int mfi, .int mbe, .int mrs, .int mrw, .int mcl, .int mdo, .int mnu, .ref m7, .ref m8, .ref m9, .ref m10])), (m1, .inl (cI, 24, .inl mvl)), (m2, .inl (cI, 96, .inl mof)), (m3, .inl (cI, 168, .inl mw)), (m4, .inl (cF, 288, .inr (.inr (.inl mf)))), (m5, .inl (cZ, 2, .inl mik)), (m6, .inl (cI, 200, .inl mtx)), (m7, .inl (cI, 56, .inl mwd)), (m8, .inl (cI, 3, .inl msz)), (m9, .inl (cI, 3, .inl mso)), (m10, .inl (cI, 24, .inl mpl))] [(ma, .inr (6, [.int mst, .int mwy, .int mmk, .int mwt, .ref m1, .ref m2, .ref m3, .ref m4, .int mun, .ref m5, .ref m6, .int mln, .int mfi, .int mbe, .int mrs, .int mrw, .int mcl, .int mdo, .int mnu, .ref m7, .ref m8, .ref m9, .ref m10])), (m1, .inl (cI, 24, .inl mvl)), (m2, .inl (cI, 96, .inl mof)), (m3, .inl (cI, 168, .inl zz.1)), (m4, .inl (cF, 288, .inr (.inr (.inl zz.2)))), (m5, .inl (cZ, 2, .inl mik)), (m6, .inl (cI, 200, .inl mtx)), (m7, .inl (cI, 56, .inl mwd)), (m8, .inl (cI, 3, .inl msz)), (m9, .inl (cI, 3, .inl mso)), (m10, .inl (cI, 24, .inl mpl))] none := by
  refine Ct.ofW (cc := cX6_steadies) (maxL := 5) (ret := none) (by decide) rfl (Nat.le_of_ble_eq_true rfl) ?_
  intro p e s m args below meth c hx hb hr hml hts hown hlocks hnm hK hE A Q hQ hB H locs ls hP hD hS hl
  have hl : lv_has ls 5 [(0, .ref ma), (1, .int i), (2, .int k)] := hl
  have w0 : ∀ w ∈ u_ws RX6 TX6 23, w ∈ wsX6_steadies := by decide +kernel
  have w1 := hts (.fieldLink RX6 20 "MotionStatesModel" "w" "[I") (by decide +kernel)
  have w2 := hts (.fieldLink RX6 23 "MotionStatesModel" "f" "[F") (by decide +kernel)
  have L39 : ∀ (n : Nat) (x4_39 : Int32) (mf_39 : Nat → UInt32) (oo : Int32 × (Nat → UInt32)), f_X6_steadies_L39 i k mw n x4_39 mf_39 = some oo → ∀ (H : Heap) (locs : List Loc) (ls : Array Slot), va_P D vwCl [(ma, .inr (6, [.int mst, .int mwy, .int mmk, .int mwt, .ref m1, .ref m2, .ref m3, .ref m4, .int mun, .ref m5, .ref m6, .int mln, .int mfi, .int mbe, .int mrs, .int mrw, .int mcl, .int mdo, .int mnu, .ref m7, .ref m8, .ref m9, .ref m10])), (m1, .inl (cI, 24, .inl mvl)), (m2, .inl (cI, 96, .inl mof)), (m3, .inl (cI, 168, .inl (upd (upd (upd mw (((((14 : Int32) * i) + ((5 : Int32) * k)) + 2).toNatClampNeg) 0) (((((14 : Int32) * i) + ((5 : Int32) * k)) + 3).toNatClampNeg) 0) (((((14 : Int32) * i) + ((5 : Int32) * k)) + 4).toNatClampNeg) (-1)))), (m4, .inl (cF, 288, .inr (.inr (.inl mf_39)))), (m5, .inl (cZ, 2, .inl mik)), (m6, .inl (cI, 200, .inl mtx)), (m7, .inl (cI, 56, .inl mwd)), (m8, .inl (cI, 3, .inl msz)), (m9, .inl (cI, 3, .inl mso)), (m10, .inl (cI, 24, .inl mpl))] H → va_D A [(ma, .inr (6, [.int mst, .int mwy, .int mmk, .int mwt, .ref m1, .ref m2, .ref m3, .ref m4, .int mun, .ref m5, .ref m6, .int mln, .int mfi, .int mbe, .int mrs, .int mrw, .int mcl, .int mdo, .int mnu, .ref m7, .ref m8, .ref m9, .ref m10])), (m1, .inl (cI, 24, .inl mvl)), (m2, .inl (cI, 96, .inl mof)), (m3, .inl (cI, 168, .inl (upd (upd (upd mw (((((14 : Int32) * i) + ((5 : Int32) * k)) + 2).toNatClampNeg) 0) (((((14 : Int32) * i) + ((5 : Int32) * k)) + 3).toNatClampNeg) 0) (((((14 : Int32) * i) + ((5 : Int32) * k)) + 4).toNatClampNeg) (-1)))), (m4, .inl (cF, 288, .inr (.inr (.inl mf_39)))), (m5, .inl (cZ, 2, .inl mik)), (m6, .inl (cI, 200, .inl mtx)), (m7, .inl (cI, 56, .inl mwd)), (m8, .inl (cI, 3, .inl msz)), (m9, .inl (cI, 3, .inl mso)), (m10, .inl (cI, 24, .inl mpl))] → va_S A s.heap H locs → lv_has ls 5 [(4, .int x4_39), (3, .int (((14 : Int32) * i) + ((5 : Int32) * k))), (0, .ref ma), (1, .int i), (2, .int k)] → (∀ (H : Heap) (locs : List Loc) (ls : Array Slot), va_P D vwCl [(ma, .inr (6, [.int mst, .int mwy, .int mmk, .int mwt, .ref m1, .ref m2, .ref m3, .ref m4, .int mun, .ref m5, .ref m6, .int mln, .int mfi, .int mbe, .int mrs, .int mrw, .int mcl, .int mdo, .int mnu, .ref m7, .ref m8, .ref m9, .ref m10])), (m1, .inl (cI, 24, .inl mvl)), (m2, .inl (cI, 96, .inl mof)), (m3, .inl (cI, 168, .inl (upd (upd (upd mw (((((14 : Int32) * i) + ((5 : Int32) * k)) + 2).toNatClampNeg) 0) (((((14 : Int32) * i) + ((5 : Int32) * k)) + 3).toNatClampNeg) 0) (((((14 : Int32) * i) + ((5 : Int32) * k)) + 4).toNatClampNeg) (-1)))), (m4, .inl (cF, 288, .inr (.inr (.inl oo.2)))), (m5, .inl (cZ, 2, .inl mik)), (m6, .inl (cI, 200, .inl mtx)), (m7, .inl (cI, 56, .inl mwd)), (m8, .inl (cI, 3, .inl msz)), (m9, .inl (cI, 3, .inl mso)), (m10, .inl (cI, 24, .inl mpl))] H → va_D A [(ma, .inr (6, [.int mst, .int mwy, .int mmk, .int mwt, .ref m1, .ref m2, .ref m3, .ref m4, .int mun, .ref m5, .ref m6, .int mln, .int mfi, .int mbe, .int mrs, .int mrw, .int mcl, .int mdo, .int mnu, .ref m7, .ref m8, .ref m9, .ref m10])), (m1, .inl (cI, 24, .inl mvl)), (m2, .inl (cI, 96, .inl mof)), (m3, .inl (cI, 168, .inl (upd (upd (upd mw (((((14 : Int32) * i) + ((5 : Int32) * k)) + 2).toNatClampNeg) 0) (((((14 : Int32) * i) + ((5 : Int32) * k)) + 3).toNatClampNeg) 0) (((((14 : Int32) * i) + ((5 : Int32) * k)) + 4).toNatClampNeg) (-1)))), (m4, .inl (cF, 288, .inr (.inr (.inl oo.2)))), (m5, .inl (cZ, 2, .inl mik)), (m6, .inl (cI, 200, .inl mtx)), (m7, .inl (cI, 56, .inl mwd)), (m8, .inl (cI, 3, .inl msz)), (m9, .inl (cI, 3, .inl mso)), (m10, .inl (cI, 24, .inl mpl))] → va_S A s.heap H locs → lv_has ls 5 [(4, .int oo.1), (3, .int (((14 : Int32) * i) + ((5 : Int32) * k))), (0, .ref ma), (1, .int i), (2, .int k)] → W p l e { frames := 0, cells := 0, slots := 0, locals := 0 } s m args below meth c H locs 0 0 Q (F0 m 87 ls [])) → W p l e { frames := 0, cells := 0, slots := 0, locals := 0 } s m args below meth c H locs 0 0 Q (F0 m 39 ls []) := by
    intro n
    induction n with
    | zero => intro x4_39 mf_39 oo hf; exact absurd hf (by simp [f_X6_steadies_L39])
    | succ n ih =>
      intro x4_39 mf_39 oo hf H locs ls hP hD hS hl kk
      rw [f_X6_steadies_L39] at hf
      refine lv_iload hx hb dX6_steadies_39 (lv_at hl 0 rfl) ?_
      refine lv_bipush (v := 6) hx hb dX6_steadies_41 (by decide) ?_
      refine lv_icmp_ge (tgt := 87) hx hb dX6_steadies_43 (by decide) (fun c4 => ?_) (fun c4 => ?_)
      · have hf := if_p c4 hf
        have h1 := Option.some.inj hf
        subst h1
        exact kk H locs ls hP hD hS (lv_sub hl [0, 1, 2, 3, 4] rfl)
      · have hf := if_n c4 hf
        refine lv_aload_n hx hb dX6_steadies_46 rfl (lv_at hl 2 rfl) ?_
        refine va_get (D := D) (ci := 6) (v := .ref m4) (C := RX6) (T := TX6) (N := 23) hx hb hts w0 hown hK hP 0 rfl rfl 7 (by decide) w2 (fun _ h9 => h9) rfl dX6_steadies_47 ?_
        refine lv_bipush (v := 24) hx hb dX6_steadies_50 (by decide) ?_
        refine lv_iload_n hx hb dX6_steadies_52 rfl (lv_at hl 3 rfl) ?_
        refine lv_imul hx hb dX6_steadies_53 ?_
        refine lv_bipush (v := 6) hx hb dX6_steadies_54 (by decide) ?_
        refine lv_iload_n hx hb dX6_steadies_56 rfl (lv_at hl 4 rfl) ?_
        refine lv_imul hx hb dX6_steadies_57 ?_
        refine lv_iadd hx hb dX6_steadies_58 ?_
        refine lv_iload hx hb dX6_steadies_59 (lv_at hl 0 rfl) ?_
        refine lv_iadd hx hb dX6_steadies_61 ?_
        refine lv_iload hx hb dX6_steadies_62 (lv_at hl 0 rfl) ?_
        refine lv_aload_n hx hb dX6_steadies_64 rfl (lv_at hl 2 rfl) ?_
        refine va_get (D := D) (ci := 6) (v := .ref m3) (C := RX6) (T := TX6) (N := 23) hx hb hts w0 hown hK hP 0 rfl rfl 6 (by decide) w1 (fun _ h9 => h9) rfl dX6_steadies_65 ?_
        refine lv_iload_n hx hb dX6_steadies_68 rfl (lv_at hl 1 rfl) ?_
        refine lv_iconst (v := 0) hx hb dX6_steadies_69 (by decide) ?_
        refine lv_iadd hx hb dX6_steadies_70 ?_
        obtain ⟨g5, hf⟩ := gd_inv hf
        refine va_iald hx hb hK hP 3 2 rfl rfl g5 dX6_steadies_71 ?_
        refine lv_icmp_ne (tgt := 79) hx hb dX6_steadies_72 (by decide) (fun c6 => ?_) (fun c6 => ?_)
        · have hf := if_n c6 hf
          refine lv_fconst0 hx hb dX6_steadies_79 ?_
          obtain ⟨g7, hf⟩ := gd_inv hf
          refine va_fast hx hb hK hP hD hS 4 1 rfl rfl g7 dX6_steadies_80 (fun H locs hP hD hS => ?_)
          have hP : va_P D vwCl [(ma, .inr (6, [.int mst, .int mwy, .int mmk, .int mwt, .ref m1, .ref m2, .ref m3, .ref m4, .int mun, .ref m5, .ref m6, .int mln, .int mfi, .int mbe, .int mrs, .int mrw, .int mcl, .int mdo, .int mnu, .ref m7, .ref m8, .ref m9, .ref m10])), (m1, .inl (cI, 24, .inl mvl)), (m2, .inl (cI, 96, .inl mof)), (m3, .inl (cI, 168, .inl (upd (upd (upd mw (((((14 : Int32) * i) + ((5 : Int32) * k)) + 2).toNatClampNeg) 0) (((((14 : Int32) * i) + ((5 : Int32) * k)) + 3).toNatClampNeg) 0) (((((14 : Int32) * i) + ((5 : Int32) * k)) + 4).toNatClampNeg) (-1)))), (m4, .inl (cF, 288, .inr (.inr (.inl (vf_upd mf_39 (((((24 : Int32) * i) + ((6 : Int32) * k)) + x4_39).toNatClampNeg) FP.fconst0))))), (m5, .inl (cZ, 2, .inl mik)), (m6, .inl (cI, 200, .inl mtx)), (m7, .inl (cI, 56, .inl mwd)), (m8, .inl (cI, 3, .inl msz)), (m9, .inl (cI, 3, .inl mso)), (m10, .inl (cI, 24, .inl mpl))] H := hP
          have hD : va_D A [(ma, .inr (6, [.int mst, .int mwy, .int mmk, .int mwt, .ref m1, .ref m2, .ref m3, .ref m4, .int mun, .ref m5, .ref m6, .int mln, .int mfi, .int mbe, .int mrs, .int mrw, .int mcl, .int mdo, .int mnu, .ref m7, .ref m8, .ref m9, .ref m10])), (m1, .inl (cI, 24, .inl mvl)), (m2, .inl (cI, 96, .inl mof)), (m3, .inl (cI, 168, .inl (upd (upd (upd mw (((((14 : Int32) * i) + ((5 : Int32) * k)) + 2).toNatClampNeg) 0) (((((14 : Int32) * i) + ((5 : Int32) * k)) + 3).toNatClampNeg) 0) (((((14 : Int32) * i) + ((5 : Int32) * k)) + 4).toNatClampNeg) (-1)))), (m4, .inl (cF, 288, .inr (.inr (.inl (vf_upd mf_39 (((((24 : Int32) * i) + ((6 : Int32) * k)) + x4_39).toNatClampNeg) FP.fconst0))))), (m5, .inl (cZ, 2, .inl mik)), (m6, .inl (cI, 200, .inl mtx)), (m7, .inl (cI, 56, .inl mwd)), (m8, .inl (cI, 3, .inl msz)), (m9, .inl (cI, 3, .inl mso)), (m10, .inl (cI, 24, .inl mpl))] := hD
          refine lv_iinc (v := x4_39 + 1) (lv' := [(4, .int (x4_39 + 1)), (3, .int (((14 : Int32) * i) + ((5 : Int32) * k))), (0, .ref ma), (1, .int i), (2, .int k)]) hx hb dX6_steadies_81 hl (k := 0) rfl rfl (by decide) rfl (fun ls hl => ?_)
          refine lv_goto (tgt := 39) hx hb dX6_steadies_84 (by decide) ?_
          exact ih (x4_39 + 1) (vf_upd mf_39 (((((24 : Int32) * i) + ((6 : Int32) * k)) + x4_39).toNatClampNeg) FP.fconst0) oo hf H locs ls hP hD hS (lv_sub hl [0, 1, 2, 3, 4] rfl) kk
        · have hf := if_p c6 hf
          refine lv_fconst1 hx hb dX6_steadies_75 ?_
          refine lv_goto (tgt := 80) hx hb dX6_steadies_76 (by decide) ?_
          obtain ⟨g8, hf⟩ := gd_inv hf
          refine va_fast hx hb hK hP hD hS 4 1 rfl rfl g8 dX6_steadies_80 (fun H locs hP hD hS => ?_)
          have hP : va_P D vwCl [(ma, .inr (6, [.int mst, .int mwy, .int mmk, .int mwt, .ref m1, .ref m2, .ref m3, .ref m4, .int mun, .ref m5, .ref m6, .int mln, .int mfi, .int mbe, .int mrs, .int mrw, .int mcl, .int mdo, .int mnu, .ref m7, .ref m8, .ref m9, .ref m10])), (m1, .inl (cI, 24, .inl mvl)), (m2, .inl (cI, 96, .inl mof)), (m3, .inl (cI, 168, .inl (upd (upd (upd mw (((((14 : Int32) * i) + ((5 : Int32) * k)) + 2).toNatClampNeg) 0) (((((14 : Int32) * i) + ((5 : Int32) * k)) + 3).toNatClampNeg) 0) (((((14 : Int32) * i) + ((5 : Int32) * k)) + 4).toNatClampNeg) (-1)))), (m4, .inl (cF, 288, .inr (.inr (.inl (vf_upd mf_39 (((((24 : Int32) * i) + ((6 : Int32) * k)) + x4_39).toNatClampNeg) FP.fconst1))))), (m5, .inl (cZ, 2, .inl mik)), (m6, .inl (cI, 200, .inl mtx)), (m7, .inl (cI, 56, .inl mwd)), (m8, .inl (cI, 3, .inl msz)), (m9, .inl (cI, 3, .inl mso)), (m10, .inl (cI, 24, .inl mpl))] H := hP
          have hD : va_D A [(ma, .inr (6, [.int mst, .int mwy, .int mmk, .int mwt, .ref m1, .ref m2, .ref m3, .ref m4, .int mun, .ref m5, .ref m6, .int mln, .int mfi, .int mbe, .int mrs, .int mrw, .int mcl, .int mdo, .int mnu, .ref m7, .ref m8, .ref m9, .ref m10])), (m1, .inl (cI, 24, .inl mvl)), (m2, .inl (cI, 96, .inl mof)), (m3, .inl (cI, 168, .inl (upd (upd (upd mw (((((14 : Int32) * i) + ((5 : Int32) * k)) + 2).toNatClampNeg) 0) (((((14 : Int32) * i) + ((5 : Int32) * k)) + 3).toNatClampNeg) 0) (((((14 : Int32) * i) + ((5 : Int32) * k)) + 4).toNatClampNeg) (-1)))), (m4, .inl (cF, 288, .inr (.inr (.inl (vf_upd mf_39 (((((24 : Int32) * i) + ((6 : Int32) * k)) + x4_39).toNatClampNeg) FP.fconst1))))), (m5, .inl (cZ, 2, .inl mik)), (m6, .inl (cI, 200, .inl mtx)), (m7, .inl (cI, 56, .inl mwd)), (m8, .inl (cI, 3, .inl msz)), (m9, .inl (cI, 3, .inl mso)), (m10, .inl (cI, 24, .inl mpl))] := hD
          refine lv_iinc (v := x4_39 + 1) (lv' := [(4, .int (x4_39 + 1)), (3, .int (((14 : Int32) * i) + ((5 : Int32) * k))), (0, .ref ma), (1, .int i), (2, .int k)]) hx hb dX6_steadies_81 hl (k := 0) rfl rfl (by decide) rfl (fun ls hl => ?_)
          refine lv_goto (tgt := 39) hx hb dX6_steadies_84 (by decide) ?_
          exact ih (x4_39 + 1) (vf_upd mf_39 (((((24 : Int32) * i) + ((6 : Int32) * k)) + x4_39).toNatClampNeg) FP.fconst1) oo hf H locs ls hP hD hS (lv_sub hl [0, 1, 2, 3, 4] rfl) kk
  unfold f_X6_steadies at hf
  refine lv_bipush (v := 14) hx hb dX6_steadies_0 (by decide) ?_
  refine lv_iload_n hx hb dX6_steadies_2 rfl (lv_at hl 1 rfl) ?_
  refine lv_imul hx hb dX6_steadies_3 ?_
  refine lv_iconst (v := 5) hx hb dX6_steadies_4 (by decide) ?_
  refine lv_iload_n hx hb dX6_steadies_5 rfl (lv_at hl 2 rfl) ?_
  refine lv_imul hx hb dX6_steadies_6 ?_
  refine lv_iadd hx hb dX6_steadies_7 ?_
  refine lv_istore_n (lv' := [(3, .int (((14 : Int32) * i) + ((5 : Int32) * k))), (0, .ref ma), (1, .int i), (2, .int k)]) hx hb dX6_steadies_8 rfl hl (by decide) rfl (fun ls hl => ?_)
  refine lv_aload_n hx hb dX6_steadies_9 rfl (lv_at hl 1 rfl) ?_
  refine va_get (D := D) (ci := 6) (v := .ref m3) (C := RX6) (T := TX6) (N := 23) hx hb hts w0 hown hK hP 0 rfl rfl 6 (by decide) w1 (fun _ h9 => h9) rfl dX6_steadies_10 ?_
  refine lv_iload_n hx hb dX6_steadies_13 rfl (lv_at hl 0 rfl) ?_
  refine lv_iconst (v := 2) hx hb dX6_steadies_14 (by decide) ?_
  refine lv_iadd hx hb dX6_steadies_15 ?_
  refine lv_iconst (v := 0) hx hb dX6_steadies_16 (by decide) ?_
  obtain ⟨g1, hf⟩ := gd_inv hf
  refine va_iast hx hb hK hP hD hS 3 2 rfl rfl g1 dX6_steadies_17 (fun H locs hP hD hS => ?_)
  have hP : va_P D vwCl [(ma, .inr (6, [.int mst, .int mwy, .int mmk, .int mwt, .ref m1, .ref m2, .ref m3, .ref m4, .int mun, .ref m5, .ref m6, .int mln, .int mfi, .int mbe, .int mrs, .int mrw, .int mcl, .int mdo, .int mnu, .ref m7, .ref m8, .ref m9, .ref m10])), (m1, .inl (cI, 24, .inl mvl)), (m2, .inl (cI, 96, .inl mof)), (m3, .inl (cI, 168, .inl (upd mw (((((14 : Int32) * i) + ((5 : Int32) * k)) + 2).toNatClampNeg) 0))), (m4, .inl (cF, 288, .inr (.inr (.inl mf)))), (m5, .inl (cZ, 2, .inl mik)), (m6, .inl (cI, 200, .inl mtx)), (m7, .inl (cI, 56, .inl mwd)), (m8, .inl (cI, 3, .inl msz)), (m9, .inl (cI, 3, .inl mso)), (m10, .inl (cI, 24, .inl mpl))] H := hP
  have hD : va_D A [(ma, .inr (6, [.int mst, .int mwy, .int mmk, .int mwt, .ref m1, .ref m2, .ref m3, .ref m4, .int mun, .ref m5, .ref m6, .int mln, .int mfi, .int mbe, .int mrs, .int mrw, .int mcl, .int mdo, .int mnu, .ref m7, .ref m8, .ref m9, .ref m10])), (m1, .inl (cI, 24, .inl mvl)), (m2, .inl (cI, 96, .inl mof)), (m3, .inl (cI, 168, .inl (upd mw (((((14 : Int32) * i) + ((5 : Int32) * k)) + 2).toNatClampNeg) 0))), (m4, .inl (cF, 288, .inr (.inr (.inl mf)))), (m5, .inl (cZ, 2, .inl mik)), (m6, .inl (cI, 200, .inl mtx)), (m7, .inl (cI, 56, .inl mwd)), (m8, .inl (cI, 3, .inl msz)), (m9, .inl (cI, 3, .inl mso)), (m10, .inl (cI, 24, .inl mpl))] := hD
  refine lv_aload_n hx hb dX6_steadies_18 rfl (lv_at hl 1 rfl) ?_
  refine va_get (D := D) (ci := 6) (v := .ref m3) (C := RX6) (T := TX6) (N := 23) hx hb hts w0 hown hK hP 0 rfl rfl 6 (by decide) w1 (fun _ h9 => h9) rfl dX6_steadies_19 ?_
  refine lv_iload_n hx hb dX6_steadies_22 rfl (lv_at hl 0 rfl) ?_
  refine lv_iconst (v := 3) hx hb dX6_steadies_23 (by decide) ?_
  refine lv_iadd hx hb dX6_steadies_24 ?_
  refine lv_iconst (v := 0) hx hb dX6_steadies_25 (by decide) ?_
  obtain ⟨g2, hf⟩ := gd_inv hf
  refine va_iast hx hb hK hP hD hS 3 2 rfl rfl g2 dX6_steadies_26 (fun H locs hP hD hS => ?_)
  have hP : va_P D vwCl [(ma, .inr (6, [.int mst, .int mwy, .int mmk, .int mwt, .ref m1, .ref m2, .ref m3, .ref m4, .int mun, .ref m5, .ref m6, .int mln, .int mfi, .int mbe, .int mrs, .int mrw, .int mcl, .int mdo, .int mnu, .ref m7, .ref m8, .ref m9, .ref m10])), (m1, .inl (cI, 24, .inl mvl)), (m2, .inl (cI, 96, .inl mof)), (m3, .inl (cI, 168, .inl (upd (upd mw (((((14 : Int32) * i) + ((5 : Int32) * k)) + 2).toNatClampNeg) 0) (((((14 : Int32) * i) + ((5 : Int32) * k)) + 3).toNatClampNeg) 0))), (m4, .inl (cF, 288, .inr (.inr (.inl mf)))), (m5, .inl (cZ, 2, .inl mik)), (m6, .inl (cI, 200, .inl mtx)), (m7, .inl (cI, 56, .inl mwd)), (m8, .inl (cI, 3, .inl msz)), (m9, .inl (cI, 3, .inl mso)), (m10, .inl (cI, 24, .inl mpl))] H := hP
  have hD : va_D A [(ma, .inr (6, [.int mst, .int mwy, .int mmk, .int mwt, .ref m1, .ref m2, .ref m3, .ref m4, .int mun, .ref m5, .ref m6, .int mln, .int mfi, .int mbe, .int mrs, .int mrw, .int mcl, .int mdo, .int mnu, .ref m7, .ref m8, .ref m9, .ref m10])), (m1, .inl (cI, 24, .inl mvl)), (m2, .inl (cI, 96, .inl mof)), (m3, .inl (cI, 168, .inl (upd (upd mw (((((14 : Int32) * i) + ((5 : Int32) * k)) + 2).toNatClampNeg) 0) (((((14 : Int32) * i) + ((5 : Int32) * k)) + 3).toNatClampNeg) 0))), (m4, .inl (cF, 288, .inr (.inr (.inl mf)))), (m5, .inl (cZ, 2, .inl mik)), (m6, .inl (cI, 200, .inl mtx)), (m7, .inl (cI, 56, .inl mwd)), (m8, .inl (cI, 3, .inl msz)), (m9, .inl (cI, 3, .inl mso)), (m10, .inl (cI, 24, .inl mpl))] := hD
  refine lv_aload_n hx hb dX6_steadies_27 rfl (lv_at hl 1 rfl) ?_
  refine va_get (D := D) (ci := 6) (v := .ref m3) (C := RX6) (T := TX6) (N := 23) hx hb hts w0 hown hK hP 0 rfl rfl 6 (by decide) w1 (fun _ h9 => h9) rfl dX6_steadies_28 ?_
  refine lv_iload_n hx hb dX6_steadies_31 rfl (lv_at hl 0 rfl) ?_
  refine lv_iconst (v := 4) hx hb dX6_steadies_32 (by decide) ?_
  refine lv_iadd hx hb dX6_steadies_33 ?_
  refine lv_iconst (v := (-1)) hx hb dX6_steadies_34 (by decide) ?_
  obtain ⟨g3, hf⟩ := gd_inv hf
  refine va_iast hx hb hK hP hD hS 3 2 rfl rfl g3 dX6_steadies_35 (fun H locs hP hD hS => ?_)
  have hP : va_P D vwCl [(ma, .inr (6, [.int mst, .int mwy, .int mmk, .int mwt, .ref m1, .ref m2, .ref m3, .ref m4, .int mun, .ref m5, .ref m6, .int mln, .int mfi, .int mbe, .int mrs, .int mrw, .int mcl, .int mdo, .int mnu, .ref m7, .ref m8, .ref m9, .ref m10])), (m1, .inl (cI, 24, .inl mvl)), (m2, .inl (cI, 96, .inl mof)), (m3, .inl (cI, 168, .inl (upd (upd (upd mw (((((14 : Int32) * i) + ((5 : Int32) * k)) + 2).toNatClampNeg) 0) (((((14 : Int32) * i) + ((5 : Int32) * k)) + 3).toNatClampNeg) 0) (((((14 : Int32) * i) + ((5 : Int32) * k)) + 4).toNatClampNeg) (-1)))), (m4, .inl (cF, 288, .inr (.inr (.inl mf)))), (m5, .inl (cZ, 2, .inl mik)), (m6, .inl (cI, 200, .inl mtx)), (m7, .inl (cI, 56, .inl mwd)), (m8, .inl (cI, 3, .inl msz)), (m9, .inl (cI, 3, .inl mso)), (m10, .inl (cI, 24, .inl mpl))] H := hP
  have hD : va_D A [(ma, .inr (6, [.int mst, .int mwy, .int mmk, .int mwt, .ref m1, .ref m2, .ref m3, .ref m4, .int mun, .ref m5, .ref m6, .int mln, .int mfi, .int mbe, .int mrs, .int mrw, .int mcl, .int mdo, .int mnu, .ref m7, .ref m8, .ref m9, .ref m10])), (m1, .inl (cI, 24, .inl mvl)), (m2, .inl (cI, 96, .inl mof)), (m3, .inl (cI, 168, .inl (upd (upd (upd mw (((((14 : Int32) * i) + ((5 : Int32) * k)) + 2).toNatClampNeg) 0) (((((14 : Int32) * i) + ((5 : Int32) * k)) + 3).toNatClampNeg) 0) (((((14 : Int32) * i) + ((5 : Int32) * k)) + 4).toNatClampNeg) (-1)))), (m4, .inl (cF, 288, .inr (.inr (.inl mf)))), (m5, .inl (cZ, 2, .inl mik)), (m6, .inl (cI, 200, .inl mtx)), (m7, .inl (cI, 56, .inl mwd)), (m8, .inl (cI, 3, .inl msz)), (m9, .inl (cI, 3, .inl mso)), (m10, .inl (cI, 24, .inl mpl))] := hD
  refine lv_iconst (v := 0) hx hb dX6_steadies_36 (by decide) ?_
  refine lv_istore (lv' := [(4, .int 0), (3, .int (((14 : Int32) * i) + ((5 : Int32) * k))), (0, .ref ma), (1, .int i), (2, .int k)]) hx hb dX6_steadies_37 hl (by decide) rfl (fun ls hl => ?_)
  obtain ⟨⟨q9, q10⟩, hq11, hf⟩ := bd_inv hf
  refine L39 1000 0 mf (q9, q10) hq11 H locs ls hP hD hS (lv_sub hl [0, 1, 2, 3, 4] rfl) (fun H locs ls hP hD hS hl => ?_)
  have hP : va_P D vwCl [(ma, .inr (6, [.int mst, .int mwy, .int mmk, .int mwt, .ref m1, .ref m2, .ref m3, .ref m4, .int mun, .ref m5, .ref m6, .int mln, .int mfi, .int mbe, .int mrs, .int mrw, .int mcl, .int mdo, .int mnu, .ref m7, .ref m8, .ref m9, .ref m10])), (m1, .inl (cI, 24, .inl mvl)), (m2, .inl (cI, 96, .inl mof)), (m3, .inl (cI, 168, .inl (upd (upd (upd mw (((((14 : Int32) * i) + ((5 : Int32) * k)) + 2).toNatClampNeg) 0) (((((14 : Int32) * i) + ((5 : Int32) * k)) + 3).toNatClampNeg) 0) (((((14 : Int32) * i) + ((5 : Int32) * k)) + 4).toNatClampNeg) (-1)))), (m4, .inl (cF, 288, .inr (.inr (.inl q10)))), (m5, .inl (cZ, 2, .inl mik)), (m6, .inl (cI, 200, .inl mtx)), (m7, .inl (cI, 56, .inl mwd)), (m8, .inl (cI, 3, .inl msz)), (m9, .inl (cI, 3, .inl mso)), (m10, .inl (cI, 24, .inl mpl))] H := hP
  have hD : va_D A [(ma, .inr (6, [.int mst, .int mwy, .int mmk, .int mwt, .ref m1, .ref m2, .ref m3, .ref m4, .int mun, .ref m5, .ref m6, .int mln, .int mfi, .int mbe, .int mrs, .int mrw, .int mcl, .int mdo, .int mnu, .ref m7, .ref m8, .ref m9, .ref m10])), (m1, .inl (cI, 24, .inl mvl)), (m2, .inl (cI, 96, .inl mof)), (m3, .inl (cI, 168, .inl (upd (upd (upd mw (((((14 : Int32) * i) + ((5 : Int32) * k)) + 2).toNatClampNeg) 0) (((((14 : Int32) * i) + ((5 : Int32) * k)) + 3).toNatClampNeg) 0) (((((14 : Int32) * i) + ((5 : Int32) * k)) + 4).toNatClampNeg) (-1)))), (m4, .inl (cF, 288, .inr (.inr (.inl q10)))), (m5, .inl (cZ, 2, .inl mik)), (m6, .inl (cI, 200, .inl mtx)), (m7, .inl (cI, 56, .inl mwd)), (m8, .inl (cI, 3, .inl msz)), (m9, .inl (cI, 3, .inl mso)), (m10, .inl (cI, 24, .inl mpl))] := hD
  have hl : lv_has ls 5 [(4, .int q9), (3, .int (((14 : Int32) * i) + ((5 : Int32) * k))), (0, .ref ma), (1, .int i), (2, .int k)] := hl
  have h1 := Option.some.inj hf
  subst h1
  rw [hQ]
  exact W.vret hx hb hr (fun t ht hW => qEnd hP hS ht) hS.2.2 dX6_steadies_87
set_option maxRecDepth 100000 in
set_option maxHeartbeats 4000000 in
theorem c_X6_takes (l : Launch) (D : va_G) (B : Nat) (adK adV : Nat → Nat) (cC cF cI cZ cM cS : ClassId) (ma : Nat) (mst : Int32) (mwy : Int32) (mmk : Int32) (mwt : Int32) (m1 : Nat) (m2 : Nat) (m3 : Nat) (m4 : Nat) (mun : Int32) (m5 : Nat) (m6 : Nat) (mln : Int32) (mfi : Int32) (mbe : Int32) (mrs : Int32) (mrw : Int32) (mcl : Int32) (mdo : Int32) (mnu : Int32) (m7 : Nat) (m8 : Nat) (m9 : Nat) (m10 : Nat) (mvl : Nat → Int32) (mof : Nat → Int32) (mw : Nat → Int32) (mf : Nat → UInt32) (mik : Nat → Int32) (mtx : Nat → Int32) (mwd : Nat → Int32) (msz : Nat → Int32) (mso : Nat → Int32) (mpl : Nat → Int32) (i : Int32) (k : Int32) (j : Int32) (zz : (Nat → Int32) × (Nat → UInt32)) (hf : f_X6_takes mof mw mf i k j = some zz) : Ct l yX6_takes wsX6_takes { frames := 1, cells := 0, slots := 0, locals := 24 } D B adK adV (tysX cC cF cI cZ cM cS) [.ref ma, .int i, .int k, .int j] [(ma, .inr (6, [.int mst, .int mwy, .int mmk, .int mwt, .ref m1, .ref m2, .ref m3, .ref m4, .int mun, .ref m5, .ref m6, .int mln, .int mfi, .int mbe, .int mrs, .int mrw, .int mcl, .int mdo, .int mnu, .ref m7, .ref m8, .ref m9, .ref m10])), (m1, .inl (cI, 24, .inl mvl)), (m2, .inl (cI, 96, .inl mof)), (m3, .inl (cI, 168, .inl mw)), (m4, .inl (cF, 288, .inr (.inr (.inl mf)))), (m5, .inl (cZ, 2, .inl mik)), (m6, .inl (cI, 200, .inl mtx)), (m7, .inl (cI, 56, .inl mwd)), (m8, .inl (cI, 3, .inl msz)), (m9, .inl (cI, 3, .inl mso)), (m10, .inl (cI, 24, .inl mpl))] [(ma, .inr (6, [.int mst, .int mwy, .int mmk, .int mwt, .ref m1, .ref m2, .ref m3, .ref m4, .int mun, .ref m5, .ref m6, .int mln, .int mfi, .int mbe, .int mrs, .int mrw, .int mcl, .int mdo, .int mnu, .ref m7, .ref m8, .ref m9, .ref m10])), (m1, .inl (cI, 24, .inl mvl)), (m2, .inl (cI, 96, .inl mof)), (m3, .inl (cI, 168, .inl zz.1)), (m4, .inl (cF, 288, .inr (.inr (.inl zz.2)))), (m5, .inl (cZ, 2, .inl mik)), (m6, .inl (cI, 200, .inl mtx)), (m7, .inl (cI, 56, .inl mwd)), (m8, .inl (cI, 3, .inl msz)), (m9, .inl (cI, 3, .inl mso)), (m10, .inl (cI, 24, .inl mpl))] none := by
  refine Ct.ofW (cc := cX6_takes) (maxL := 6) (ret := none) (by decide) rfl (Nat.le_of_ble_eq_true rfl) ?_
  intro p e s m args below meth c hx hb hr hml hts hown hlocks hnm hK hE A Q hQ hB H locs ls hP hD hS hl
  have hl : lv_has ls 6 [(0, .ref ma), (1, .int i), (2, .int k), (3, .int j)] := hl
  have w0 : ∀ w ∈ u_ws RX6 TX6 23, w ∈ wsX6_takes := by decide +kernel
  have w1 := hts (.fieldLink RX6 17 "MotionStatesModel" "of" "[I") (by decide +kernel)
  have w2 := hts (.fieldLink RX6 20 "MotionStatesModel" "w" "[I") (by decide +kernel)
  have w3 := hts (.fieldLink RX6 23 "MotionStatesModel" "f" "[F") (by decide +kernel)
  have L128 : ∀ (n : Nat) (x5_128 : Int32) (mf_128 : Nat → UInt32) (mw_128 : Nat → Int32) (oo : Int32 × (Nat → Int32) × (Nat → UInt32)), f_X6_takes_L128 i k n x5_128 mf_128 mw_128 = some oo → ∀ (H : Heap) (locs : List Loc) (ls : Array Slot), va_P D vwCl [(ma, .inr (6, [.int mst, .int mwy, .int mmk, .int mwt, .ref m1, .ref m2, .ref m3, .ref m4, .int mun, .ref m5, .ref m6, .int mln, .int mfi, .int mbe, .int mrs, .int mrw, .int mcl, .int mdo, .int mnu, .ref m7, .ref m8, .ref m9, .ref m10])), (m1, .inl (cI, 24, .inl mvl)), (m2, .inl (cI, 96, .inl mof)), (m3, .inl (cI, 168, .inl mw_128)), (m4, .inl (cF, 288, .inr (.inr (.inl mf_128)))), (m5, .inl (cZ, 2, .inl mik)), (m6, .inl (cI, 200, .inl mtx)), (m7, .inl (cI, 56, .inl mwd)), (m8, .inl (cI, 3, .inl msz)), (m9, .inl (cI, 3, .inl mso)), (m10, .inl (cI, 24, .inl mpl))] H → va_D A [(ma, .inr (6, [.int mst, .int mwy, .int mmk, .int mwt, .ref m1, .ref m2, .ref m3, .ref m4, .int mun, .ref m5, .ref m6, .int mln, .int mfi, .int mbe, .int mrs, .int mrw, .int mcl, .int mdo, .int mnu, .ref m7, .ref m8, .ref m9, .ref m10])), (m1, .inl (cI, 24, .inl mvl)), (m2, .inl (cI, 96, .inl mof)), (m3, .inl (cI, 168, .inl mw_128)), (m4, .inl (cF, 288, .inr (.inr (.inl mf_128)))), (m5, .inl (cZ, 2, .inl mik)), (m6, .inl (cI, 200, .inl mtx)), (m7, .inl (cI, 56, .inl mwd)), (m8, .inl (cI, 3, .inl msz)), (m9, .inl (cI, 3, .inl mso)), (m10, .inl (cI, 24, .inl mpl))] → va_S A s.heap H locs → lv_has ls 6 [(5, .int x5_128), (4, .int (((14 : Int32) * i) + ((5 : Int32) * k))), (0, .ref ma), (1, .int i), (2, .int k), (3, .int j)] → (∀ (H : Heap) (locs : List Loc) (ls : Array Slot), va_P D vwCl [(ma, .inr (6, [.int mst, .int mwy, .int mmk, .int mwt, .ref m1, .ref m2, .ref m3, .ref m4, .int mun, .ref m5, .ref m6, .int mln, .int mfi, .int mbe, .int mrs, .int mrw, .int mcl, .int mdo, .int mnu, .ref m7, .ref m8, .ref m9, .ref m10])), (m1, .inl (cI, 24, .inl mvl)), (m2, .inl (cI, 96, .inl mof)), (m3, .inl (cI, 168, .inl oo.2.1)), (m4, .inl (cF, 288, .inr (.inr (.inl oo.2.2)))), (m5, .inl (cZ, 2, .inl mik)), (m6, .inl (cI, 200, .inl mtx)), (m7, .inl (cI, 56, .inl mwd)), (m8, .inl (cI, 3, .inl msz)), (m9, .inl (cI, 3, .inl mso)), (m10, .inl (cI, 24, .inl mpl))] H → va_D A [(ma, .inr (6, [.int mst, .int mwy, .int mmk, .int mwt, .ref m1, .ref m2, .ref m3, .ref m4, .int mun, .ref m5, .ref m6, .int mln, .int mfi, .int mbe, .int mrs, .int mrw, .int mcl, .int mdo, .int mnu, .ref m7, .ref m8, .ref m9, .ref m10])), (m1, .inl (cI, 24, .inl mvl)), (m2, .inl (cI, 96, .inl mof)), (m3, .inl (cI, 168, .inl oo.2.1)), (m4, .inl (cF, 288, .inr (.inr (.inl oo.2.2)))), (m5, .inl (cZ, 2, .inl mik)), (m6, .inl (cI, 200, .inl mtx)), (m7, .inl (cI, 56, .inl mwd)), (m8, .inl (cI, 3, .inl msz)), (m9, .inl (cI, 3, .inl mso)), (m10, .inl (cI, 24, .inl mpl))] → va_S A s.heap H locs → lv_has ls 6 [(5, .int oo.1), (4, .int (((14 : Int32) * i) + ((5 : Int32) * k))), (0, .ref ma), (1, .int i), (2, .int k), (3, .int j)] → W p l e { frames := 1, cells := 0, slots := 0, locals := 24 } s m args below meth c H locs 0 0 Q (F0 m 178 ls [])) → W p l e { frames := 1, cells := 0, slots := 0, locals := 24 } s m args below meth c H locs 0 0 Q (F0 m 128 ls []) := by
    intro n
    induction n with
    | zero => intro x5_128 mf_128 mw_128 oo hf; exact absurd hf (by simp [f_X6_takes_L128])
    | succ n ih =>
      intro x5_128 mf_128 mw_128 oo hf H locs ls hP hD hS hl kk
      rw [f_X6_takes_L128] at hf
      refine lv_iload hx hb dX6_takes_128 (lv_at hl 0 rfl) ?_
      refine lv_bipush (v := 6) hx hb dX6_takes_130 (by decide) ?_
      refine lv_icmp_ge (tgt := 178) hx hb dX6_takes_132 (by decide) (fun c10 => ?_) (fun c10 => ?_)
      · have hf := if_p c10 hf
        have h1 := Option.some.inj hf
        subst h1
        exact kk H locs ls hP hD hS (lv_sub hl [0, 1, 2, 3, 4, 5] rfl)
      · have hf := if_n c10 hf
        refine lv_aload_n hx hb dX6_takes_135 rfl (lv_at hl 2 rfl) ?_
        refine va_get (D := D) (ci := 6) (v := .ref m4) (C := RX6) (T := TX6) (N := 23) hx hb hts w0 hown hK hP 0 rfl rfl 7 (by decide) w3 (fun _ h9 => h9) rfl dX6_takes_136 ?_
        refine lv_bipush (v := 24) hx hb dX6_takes_139 (by decide) ?_
        refine lv_iload_n hx hb dX6_takes_141 rfl (lv_at hl 3 rfl) ?_
        refine lv_imul hx hb dX6_takes_142 ?_
        refine lv_bipush (v := 12) hx hb dX6_takes_143 (by decide) ?_
        refine lv_iadd hx hb dX6_takes_145 ?_
        refine lv_bipush (v := 6) hx hb dX6_takes_146 (by decide) ?_
        refine lv_iload_n hx hb dX6_takes_148 rfl (lv_at hl 4 rfl) ?_
        refine lv_imul hx hb dX6_takes_149 ?_
        refine lv_iadd hx hb dX6_takes_150 ?_
        refine lv_iload hx hb dX6_takes_151 (lv_at hl 0 rfl) ?_
        refine lv_iadd hx hb dX6_takes_153 ?_
        refine lv_aload_n hx hb dX6_takes_154 rfl (lv_at hl 2 rfl) ?_
        refine va_get (D := D) (ci := 6) (v := .ref m4) (C := RX6) (T := TX6) (N := 23) hx hb hts w0 hown hK hP 0 rfl rfl 7 (by decide) w3 (fun _ h9 => h9) rfl dX6_takes_155 ?_
        refine lv_bipush (v := 24) hx hb dX6_takes_158 (by decide) ?_
        refine lv_iload_n hx hb dX6_takes_160 rfl (lv_at hl 3 rfl) ?_
        refine lv_imul hx hb dX6_takes_161 ?_
        refine lv_bipush (v := 6) hx hb dX6_takes_162 (by decide) ?_
        refine lv_iload_n hx hb dX6_takes_164 rfl (lv_at hl 4 rfl) ?_
        refine lv_imul hx hb dX6_takes_165 ?_
        refine lv_iadd hx hb dX6_takes_166 ?_
        refine lv_iload hx hb dX6_takes_167 (lv_at hl 0 rfl) ?_
        refine lv_iadd hx hb dX6_takes_169 ?_
        obtain ⟨g11, hf⟩ := gd_inv hf
        refine va_fald hx hb hK hP 4 1 rfl rfl g11 dX6_takes_170 ?_
        obtain ⟨g12, hf⟩ := gd_inv hf
        refine va_fast hx hb hK hP hD hS 4 1 rfl rfl g12 dX6_takes_171 (fun H locs hP hD hS => ?_)
        have hP : va_P D vwCl [(ma, .inr (6, [.int mst, .int mwy, .int mmk, .int mwt, .ref m1, .ref m2, .ref m3, .ref m4, .int mun, .ref m5, .ref m6, .int mln, .int mfi, .int mbe, .int mrs, .int mrw, .int mcl, .int mdo, .int mnu, .ref m7, .ref m8, .ref m9, .ref m10])), (m1, .inl (cI, 24, .inl mvl)), (m2, .inl (cI, 96, .inl mof)), (m3, .inl (cI, 168, .inl mw_128)), (m4, .inl (cF, 288, .inr (.inr (.inl (vf_upd mf_128 ((((((24 : Int32) * i) + 12) + ((6 : Int32) * k)) + x5_128).toNatClampNeg) (mf_128 (((((24 : Int32) * i) + ((6 : Int32) * k)) + x5_128).toNatClampNeg))))))), (m5, .inl (cZ, 2, .inl mik)), (m6, .inl (cI, 200, .inl mtx)), (m7, .inl (cI, 56, .inl mwd)), (m8, .inl (cI, 3, .inl msz)), (m9, .inl (cI, 3, .inl mso)), (m10, .inl (cI, 24, .inl mpl))] H := hP
        have hD : va_D A [(ma, .inr (6, [.int mst, .int mwy, .int mmk, .int mwt, .ref m1, .ref m2, .ref m3, .ref m4, .int mun, .ref m5, .ref m6, .int mln, .int mfi, .int mbe, .int mrs, .int mrw, .int mcl, .int mdo, .int mnu, .ref m7, .ref m8, .ref m9, .ref m10])), (m1, .inl (cI, 24, .inl mvl)), (m2, .inl (cI, 96, .inl mof)), (m3, .inl (cI, 168, .inl mw_128)), (m4, .inl (cF, 288, .inr (.inr (.inl (vf_upd mf_128 ((((((24 : Int32) * i) + 12) + ((6 : Int32) * k)) + x5_128).toNatClampNeg) (mf_128 (((((24 : Int32) * i) + ((6 : Int32) * k)) + x5_128).toNatClampNeg))))))), (m5, .inl (cZ, 2, .inl mik)), (m6, .inl (cI, 200, .inl mtx)), (m7, .inl (cI, 56, .inl mwd)), (m8, .inl (cI, 3, .inl msz)), (m9, .inl (cI, 3, .inl mso)), (m10, .inl (cI, 24, .inl mpl))] := hD
        refine lv_iinc (v := x5_128 + 1) (lv' := [(5, .int (x5_128 + 1)), (4, .int (((14 : Int32) * i) + ((5 : Int32) * k))), (0, .ref ma), (1, .int i), (2, .int k), (3, .int j)]) hx hb dX6_takes_172 hl (k := 0) rfl rfl (by decide) rfl (fun ls hl => ?_)
        refine lv_goto (tgt := 128) hx hb dX6_takes_175 (by decide) ?_
        exact ih (x5_128 + 1) (vf_upd mf_128 ((((((24 : Int32) * i) + 12) + ((6 : Int32) * k)) + x5_128).toNatClampNeg) (mf_128 (((((24 : Int32) * i) + ((6 : Int32) * k)) + x5_128).toNatClampNeg))) mw_128 oo hf H locs ls hP hD hS (lv_sub hl [0, 1, 2, 3, 4, 5] rfl) kk
  unfold f_X6_takes at hf
  refine lv_bipush (v := 14) hx hb dX6_takes_0 (by decide) ?_
  refine lv_iload_n hx hb dX6_takes_2 rfl (lv_at hl 1 rfl) ?_
  refine lv_imul hx hb dX6_takes_3 ?_
  refine lv_iconst (v := 5) hx hb dX6_takes_4 (by decide) ?_
  refine lv_iload_n hx hb dX6_takes_5 rfl (lv_at hl 2 rfl) ?_
  refine lv_imul hx hb dX6_takes_6 ?_
  refine lv_iadd hx hb dX6_takes_7 ?_
  refine lv_istore (lv' := [(4, .int (((14 : Int32) * i) + ((5 : Int32) * k))), (0, .ref ma), (1, .int i), (2, .int k), (3, .int j)]) hx hb dX6_takes_8 hl (by decide) rfl (fun ls hl => ?_)
  refine lv_aload_n hx hb dX6_takes_10 rfl (lv_at hl 1 rfl) ?_
  refine va_get (D := D) (ci := 6) (v := .ref m2) (C := RX6) (T := TX6) (N := 23) hx hb hts w0 hown hK hP 0 rfl rfl 5 (by decide) w1 (fun _ h9 => h9) rfl dX6_takes_11 ?_
  refine lv_bipush (v := 8) hx hb dX6_takes_14 (by decide) ?_
  refine lv_iload_n hx hb dX6_takes_16 rfl (lv_at hl 4 rfl) ?_
  refine lv_imul hx hb dX6_takes_17 ?_
  refine lv_iconst (v := 4) hx hb dX6_takes_18 (by decide) ?_
  refine lv_iadd hx hb dX6_takes_19 ?_
  obtain ⟨g1, hf⟩ := gd_inv hf
  refine va_iald hx hb hK hP 2 2 rfl rfl g1 dX6_takes_20 ?_
  refine lv_iconst (v := 3) hx hb dX6_takes_21 (by decide) ?_
  refine lv_icmp_ne (tgt := 55) hx hb dX6_takes_22 (by decide) (fun c2 => ?_) (fun c2 => ?_)
  · have hf := if_n c2 hf
    refine lv_aload_n hx hb dX6_takes_55 rfl (lv_at hl 1 rfl) ?_
    refine va_get (D := D) (ci := 6) (v := .ref m3) (C := RX6) (T := TX6) (N := 23) hx hb hts w0 hown hK hP 0 rfl rfl 6 (by decide) w2 (fun _ h9 => h9) rfl dX6_takes_56 ?_
    refine lv_iload hx hb dX6_takes_59 (lv_at hl 0 rfl) ?_
    refine lv_iconst (v := 0) hx hb dX6_takes_61 (by decide) ?_
    refine lv_iadd hx hb dX6_takes_62 ?_
    refine lv_aload_n hx hb dX6_takes_63 rfl (lv_at hl 1 rfl) ?_
    refine va_get (D := D) (ci := 6) (v := .ref m2) (C := RX6) (T := TX6) (N := 23) hx hb hts w0 hown hK hP 0 rfl rfl 5 (by decide) w1 (fun _ h9 => h9) rfl dX6_takes_64 ?_
    refine lv_bipush (v := 8) hx hb dX6_takes_67 (by decide) ?_
    refine lv_iload_n hx hb dX6_takes_69 rfl (lv_at hl 4 rfl) ?_
    refine lv_imul hx hb dX6_takes_70 ?_
    refine lv_iconst (v := 1) hx hb dX6_takes_71 (by decide) ?_
    refine lv_iadd hx hb dX6_takes_72 ?_
    obtain ⟨g3, hf⟩ := gd_inv hf
    refine va_iald hx hb hK hP 2 2 rfl rfl g3 dX6_takes_73 ?_
    obtain ⟨g4, hf⟩ := gd_inv hf
    refine va_iast hx hb hK hP hD hS 3 2 rfl rfl g4 dX6_takes_74 (fun H locs hP hD hS => ?_)
    have hP : va_P D vwCl [(ma, .inr (6, [.int mst, .int mwy, .int mmk, .int mwt, .ref m1, .ref m2, .ref m3, .ref m4, .int mun, .ref m5, .ref m6, .int mln, .int mfi, .int mbe, .int mrs, .int mrw, .int mcl, .int mdo, .int mnu, .ref m7, .ref m8, .ref m9, .ref m10])), (m1, .inl (cI, 24, .inl mvl)), (m2, .inl (cI, 96, .inl mof)), (m3, .inl (cI, 168, .inl (upd mw (((((14 : Int32) * i) + ((5 : Int32) * k)) + 0).toNatClampNeg) (mof ((((8 : Int32) * j) + 1).toNatClampNeg))))), (m4, .inl (cF, 288, .inr (.inr (.inl mf)))), (m5, .inl (cZ, 2, .inl mik)), (m6, .inl (cI, 200, .inl mtx)), (m7, .inl (cI, 56, .inl mwd)), (m8, .inl (cI, 3, .inl msz)), (m9, .inl (cI, 3, .inl mso)), (m10, .inl (cI, 24, .inl mpl))] H := hP
    have hD : va_D A [(ma, .inr (6, [.int mst, .int mwy, .int mmk, .int mwt, .ref m1, .ref m2, .ref m3, .ref m4, .int mun, .ref m5, .ref m6, .int mln, .int mfi, .int mbe, .int mrs, .int mrw, .int mcl, .int mdo, .int mnu, .ref m7, .ref m8, .ref m9, .ref m10])), (m1, .inl (cI, 24, .inl mvl)), (m2, .inl (cI, 96, .inl mof)), (m3, .inl (cI, 168, .inl (upd mw (((((14 : Int32) * i) + ((5 : Int32) * k)) + 0).toNatClampNeg) (mof ((((8 : Int32) * j) + 1).toNatClampNeg))))), (m4, .inl (cF, 288, .inr (.inr (.inl mf)))), (m5, .inl (cZ, 2, .inl mik)), (m6, .inl (cI, 200, .inl mtx)), (m7, .inl (cI, 56, .inl mwd)), (m8, .inl (cI, 3, .inl msz)), (m9, .inl (cI, 3, .inl mso)), (m10, .inl (cI, 24, .inl mpl))] := hD
    refine lv_aload_n hx hb dX6_takes_75 rfl (lv_at hl 1 rfl) ?_
    refine va_get (D := D) (ci := 6) (v := .ref m3) (C := RX6) (T := TX6) (N := 23) hx hb hts w0 hown hK hP 0 rfl rfl 6 (by decide) w2 (fun _ h9 => h9) rfl dX6_takes_76 ?_
    refine lv_iload hx hb dX6_takes_79 (lv_at hl 0 rfl) ?_
    refine lv_iconst (v := 1) hx hb dX6_takes_81 (by decide) ?_
    refine lv_iadd hx hb dX6_takes_82 ?_
    refine lv_iconst (v := 0) hx hb dX6_takes_83 (by decide) ?_
    obtain ⟨g5, hf⟩ := gd_inv hf
    refine va_iast hx hb hK hP hD hS 3 2 rfl rfl g5 dX6_takes_84 (fun H locs hP hD hS => ?_)
    have hP : va_P D vwCl [(ma, .inr (6, [.int mst, .int mwy, .int mmk, .int mwt, .ref m1, .ref m2, .ref m3, .ref m4, .int mun, .ref m5, .ref m6, .int mln, .int mfi, .int mbe, .int mrs, .int mrw, .int mcl, .int mdo, .int mnu, .ref m7, .ref m8, .ref m9, .ref m10])), (m1, .inl (cI, 24, .inl mvl)), (m2, .inl (cI, 96, .inl mof)), (m3, .inl (cI, 168, .inl (upd (upd mw (((((14 : Int32) * i) + ((5 : Int32) * k)) + 0).toNatClampNeg) (mof ((((8 : Int32) * j) + 1).toNatClampNeg))) (((((14 : Int32) * i) + ((5 : Int32) * k)) + 1).toNatClampNeg) 0))), (m4, .inl (cF, 288, .inr (.inr (.inl mf)))), (m5, .inl (cZ, 2, .inl mik)), (m6, .inl (cI, 200, .inl mtx)), (m7, .inl (cI, 56, .inl mwd)), (m8, .inl (cI, 3, .inl msz)), (m9, .inl (cI, 3, .inl mso)), (m10, .inl (cI, 24, .inl mpl))] H := hP
    have hD : va_D A [(ma, .inr (6, [.int mst, .int mwy, .int mmk, .int mwt, .ref m1, .ref m2, .ref m3, .ref m4, .int mun, .ref m5, .ref m6, .int mln, .int mfi, .int mbe, .int mrs, .int mrw, .int mcl, .int mdo, .int mnu, .ref m7, .ref m8, .ref m9, .ref m10])), (m1, .inl (cI, 24, .inl mvl)), (m2, .inl (cI, 96, .inl mof)), (m3, .inl (cI, 168, .inl (upd (upd mw (((((14 : Int32) * i) + ((5 : Int32) * k)) + 0).toNatClampNeg) (mof ((((8 : Int32) * j) + 1).toNatClampNeg))) (((((14 : Int32) * i) + ((5 : Int32) * k)) + 1).toNatClampNeg) 0))), (m4, .inl (cF, 288, .inr (.inr (.inl mf)))), (m5, .inl (cZ, 2, .inl mik)), (m6, .inl (cI, 200, .inl mtx)), (m7, .inl (cI, 56, .inl mwd)), (m8, .inl (cI, 3, .inl msz)), (m9, .inl (cI, 3, .inl mso)), (m10, .inl (cI, 24, .inl mpl))] := hD
    refine lv_aload_n hx hb dX6_takes_85 rfl (lv_at hl 1 rfl) ?_
    refine va_get (D := D) (ci := 6) (v := .ref m3) (C := RX6) (T := TX6) (N := 23) hx hb hts w0 hown hK hP 0 rfl rfl 6 (by decide) w2 (fun _ h9 => h9) rfl dX6_takes_86 ?_
    refine lv_iload hx hb dX6_takes_89 (lv_at hl 0 rfl) ?_
    refine lv_iconst (v := 2) hx hb dX6_takes_91 (by decide) ?_
    refine lv_iadd hx hb dX6_takes_92 ?_
    refine lv_aload_n hx hb dX6_takes_93 rfl (lv_at hl 1 rfl) ?_
    refine va_get (D := D) (ci := 6) (v := .ref m2) (C := RX6) (T := TX6) (N := 23) hx hb hts w0 hown hK hP 0 rfl rfl 5 (by decide) w1 (fun _ h9 => h9) rfl dX6_takes_94 ?_
    refine lv_bipush (v := 8) hx hb dX6_takes_97 (by decide) ?_
    refine lv_iload_n hx hb dX6_takes_99 rfl (lv_at hl 4 rfl) ?_
    refine lv_imul hx hb dX6_takes_100 ?_
    refine lv_iconst (v := 2) hx hb dX6_takes_101 (by decide) ?_
    refine lv_iadd hx hb dX6_takes_102 ?_
    obtain ⟨g6, hf⟩ := gd_inv hf
    refine va_iald hx hb hK hP 2 2 rfl rfl g6 dX6_takes_103 ?_
    obtain ⟨g7, hf⟩ := gd_inv hf
    refine va_iast hx hb hK hP hD hS 3 2 rfl rfl g7 dX6_takes_104 (fun H locs hP hD hS => ?_)
    have hP : va_P D vwCl [(ma, .inr (6, [.int mst, .int mwy, .int mmk, .int mwt, .ref m1, .ref m2, .ref m3, .ref m4, .int mun, .ref m5, .ref m6, .int mln, .int mfi, .int mbe, .int mrs, .int mrw, .int mcl, .int mdo, .int mnu, .ref m7, .ref m8, .ref m9, .ref m10])), (m1, .inl (cI, 24, .inl mvl)), (m2, .inl (cI, 96, .inl mof)), (m3, .inl (cI, 168, .inl (upd (upd (upd mw (((((14 : Int32) * i) + ((5 : Int32) * k)) + 0).toNatClampNeg) (mof ((((8 : Int32) * j) + 1).toNatClampNeg))) (((((14 : Int32) * i) + ((5 : Int32) * k)) + 1).toNatClampNeg) 0) (((((14 : Int32) * i) + ((5 : Int32) * k)) + 2).toNatClampNeg) (mof ((((8 : Int32) * j) + 2).toNatClampNeg))))), (m4, .inl (cF, 288, .inr (.inr (.inl mf)))), (m5, .inl (cZ, 2, .inl mik)), (m6, .inl (cI, 200, .inl mtx)), (m7, .inl (cI, 56, .inl mwd)), (m8, .inl (cI, 3, .inl msz)), (m9, .inl (cI, 3, .inl mso)), (m10, .inl (cI, 24, .inl mpl))] H := hP
    have hD : va_D A [(ma, .inr (6, [.int mst, .int mwy, .int mmk, .int mwt, .ref m1, .ref m2, .ref m3, .ref m4, .int mun, .ref m5, .ref m6, .int mln, .int mfi, .int mbe, .int mrs, .int mrw, .int mcl, .int mdo, .int mnu, .ref m7, .ref m8, .ref m9, .ref m10])), (m1, .inl (cI, 24, .inl mvl)), (m2, .inl (cI, 96, .inl mof)), (m3, .inl (cI, 168, .inl (upd (upd (upd mw (((((14 : Int32) * i) + ((5 : Int32) * k)) + 0).toNatClampNeg) (mof ((((8 : Int32) * j) + 1).toNatClampNeg))) (((((14 : Int32) * i) + ((5 : Int32) * k)) + 1).toNatClampNeg) 0) (((((14 : Int32) * i) + ((5 : Int32) * k)) + 2).toNatClampNeg) (mof ((((8 : Int32) * j) + 2).toNatClampNeg))))), (m4, .inl (cF, 288, .inr (.inr (.inl mf)))), (m5, .inl (cZ, 2, .inl mik)), (m6, .inl (cI, 200, .inl mtx)), (m7, .inl (cI, 56, .inl mwd)), (m8, .inl (cI, 3, .inl msz)), (m9, .inl (cI, 3, .inl mso)), (m10, .inl (cI, 24, .inl mpl))] := hD
    refine lv_aload_n hx hb dX6_takes_105 rfl (lv_at hl 1 rfl) ?_
    refine va_get (D := D) (ci := 6) (v := .ref m3) (C := RX6) (T := TX6) (N := 23) hx hb hts w0 hown hK hP 0 rfl rfl 6 (by decide) w2 (fun _ h9 => h9) rfl dX6_takes_106 ?_
    refine lv_iload hx hb dX6_takes_109 (lv_at hl 0 rfl) ?_
    refine lv_iconst (v := 3) hx hb dX6_takes_111 (by decide) ?_
    refine lv_iadd hx hb dX6_takes_112 ?_
    refine lv_iconst (v := 0) hx hb dX6_takes_113 (by decide) ?_
    obtain ⟨g8, hf⟩ := gd_inv hf
    refine va_iast hx hb hK hP hD hS 3 2 rfl rfl g8 dX6_takes_114 (fun H locs hP hD hS => ?_)
    have hP : va_P D vwCl [(ma, .inr (6, [.int mst, .int mwy, .int mmk, .int mwt, .ref m1, .ref m2, .ref m3, .ref m4, .int mun, .ref m5, .ref m6, .int mln, .int mfi, .int mbe, .int mrs, .int mrw, .int mcl, .int mdo, .int mnu, .ref m7, .ref m8, .ref m9, .ref m10])), (m1, .inl (cI, 24, .inl mvl)), (m2, .inl (cI, 96, .inl mof)), (m3, .inl (cI, 168, .inl (upd (upd (upd (upd mw (((((14 : Int32) * i) + ((5 : Int32) * k)) + 0).toNatClampNeg) (mof ((((8 : Int32) * j) + 1).toNatClampNeg))) (((((14 : Int32) * i) + ((5 : Int32) * k)) + 1).toNatClampNeg) 0) (((((14 : Int32) * i) + ((5 : Int32) * k)) + 2).toNatClampNeg) (mof ((((8 : Int32) * j) + 2).toNatClampNeg))) (((((14 : Int32) * i) + ((5 : Int32) * k)) + 3).toNatClampNeg) 0))), (m4, .inl (cF, 288, .inr (.inr (.inl mf)))), (m5, .inl (cZ, 2, .inl mik)), (m6, .inl (cI, 200, .inl mtx)), (m7, .inl (cI, 56, .inl mwd)), (m8, .inl (cI, 3, .inl msz)), (m9, .inl (cI, 3, .inl mso)), (m10, .inl (cI, 24, .inl mpl))] H := hP
    have hD : va_D A [(ma, .inr (6, [.int mst, .int mwy, .int mmk, .int mwt, .ref m1, .ref m2, .ref m3, .ref m4, .int mun, .ref m5, .ref m6, .int mln, .int mfi, .int mbe, .int mrs, .int mrw, .int mcl, .int mdo, .int mnu, .ref m7, .ref m8, .ref m9, .ref m10])), (m1, .inl (cI, 24, .inl mvl)), (m2, .inl (cI, 96, .inl mof)), (m3, .inl (cI, 168, .inl (upd (upd (upd (upd mw (((((14 : Int32) * i) + ((5 : Int32) * k)) + 0).toNatClampNeg) (mof ((((8 : Int32) * j) + 1).toNatClampNeg))) (((((14 : Int32) * i) + ((5 : Int32) * k)) + 1).toNatClampNeg) 0) (((((14 : Int32) * i) + ((5 : Int32) * k)) + 2).toNatClampNeg) (mof ((((8 : Int32) * j) + 2).toNatClampNeg))) (((((14 : Int32) * i) + ((5 : Int32) * k)) + 3).toNatClampNeg) 0))), (m4, .inl (cF, 288, .inr (.inr (.inl mf)))), (m5, .inl (cZ, 2, .inl mik)), (m6, .inl (cI, 200, .inl mtx)), (m7, .inl (cI, 56, .inl mwd)), (m8, .inl (cI, 3, .inl msz)), (m9, .inl (cI, 3, .inl mso)), (m10, .inl (cI, 24, .inl mpl))] := hD
    refine lv_aload_n hx hb dX6_takes_115 rfl (lv_at hl 1 rfl) ?_
    refine va_get (D := D) (ci := 6) (v := .ref m3) (C := RX6) (T := TX6) (N := 23) hx hb hts w0 hown hK hP 0 rfl rfl 6 (by decide) w2 (fun _ h9 => h9) rfl dX6_takes_116 ?_
    refine lv_iload hx hb dX6_takes_119 (lv_at hl 0 rfl) ?_
    refine lv_iconst (v := 4) hx hb dX6_takes_121 (by decide) ?_
    refine lv_iadd hx hb dX6_takes_122 ?_
    refine lv_iload_n hx hb dX6_takes_123 rfl (lv_at hl 4 rfl) ?_
    obtain ⟨g9, hf⟩ := gd_inv hf
    refine va_iast hx hb hK hP hD hS 3 2 rfl rfl g9 dX6_takes_124 (fun H locs hP hD hS => ?_)
    have hP : va_P D vwCl [(ma, .inr (6, [.int mst, .int mwy, .int mmk, .int mwt, .ref m1, .ref m2, .ref m3, .ref m4, .int mun, .ref m5, .ref m6, .int mln, .int mfi, .int mbe, .int mrs, .int mrw, .int mcl, .int mdo, .int mnu, .ref m7, .ref m8, .ref m9, .ref m10])), (m1, .inl (cI, 24, .inl mvl)), (m2, .inl (cI, 96, .inl mof)), (m3, .inl (cI, 168, .inl (upd (upd (upd (upd (upd mw (((((14 : Int32) * i) + ((5 : Int32) * k)) + 0).toNatClampNeg) (mof ((((8 : Int32) * j) + 1).toNatClampNeg))) (((((14 : Int32) * i) + ((5 : Int32) * k)) + 1).toNatClampNeg) 0) (((((14 : Int32) * i) + ((5 : Int32) * k)) + 2).toNatClampNeg) (mof ((((8 : Int32) * j) + 2).toNatClampNeg))) (((((14 : Int32) * i) + ((5 : Int32) * k)) + 3).toNatClampNeg) 0) (((((14 : Int32) * i) + ((5 : Int32) * k)) + 4).toNatClampNeg) j))), (m4, .inl (cF, 288, .inr (.inr (.inl mf)))), (m5, .inl (cZ, 2, .inl mik)), (m6, .inl (cI, 200, .inl mtx)), (m7, .inl (cI, 56, .inl mwd)), (m8, .inl (cI, 3, .inl msz)), (m9, .inl (cI, 3, .inl mso)), (m10, .inl (cI, 24, .inl mpl))] H := hP
    have hD : va_D A [(ma, .inr (6, [.int mst, .int mwy, .int mmk, .int mwt, .ref m1, .ref m2, .ref m3, .ref m4, .int mun, .ref m5, .ref m6, .int mln, .int mfi, .int mbe, .int mrs, .int mrw, .int mcl, .int mdo, .int mnu, .ref m7, .ref m8, .ref m9, .ref m10])), (m1, .inl (cI, 24, .inl mvl)), (m2, .inl (cI, 96, .inl mof)), (m3, .inl (cI, 168, .inl (upd (upd (upd (upd (upd mw (((((14 : Int32) * i) + ((5 : Int32) * k)) + 0).toNatClampNeg) (mof ((((8 : Int32) * j) + 1).toNatClampNeg))) (((((14 : Int32) * i) + ((5 : Int32) * k)) + 1).toNatClampNeg) 0) (((((14 : Int32) * i) + ((5 : Int32) * k)) + 2).toNatClampNeg) (mof ((((8 : Int32) * j) + 2).toNatClampNeg))) (((((14 : Int32) * i) + ((5 : Int32) * k)) + 3).toNatClampNeg) 0) (((((14 : Int32) * i) + ((5 : Int32) * k)) + 4).toNatClampNeg) j))), (m4, .inl (cF, 288, .inr (.inr (.inl mf)))), (m5, .inl (cZ, 2, .inl mik)), (m6, .inl (cI, 200, .inl mtx)), (m7, .inl (cI, 56, .inl mwd)), (m8, .inl (cI, 3, .inl msz)), (m9, .inl (cI, 3, .inl mso)), (m10, .inl (cI, 24, .inl mpl))] := hD
    refine lv_iconst (v := 0) hx hb dX6_takes_125 (by decide) ?_
    refine lv_istore (lv' := [(5, .int 0), (4, .int (((14 : Int32) * i) + ((5 : Int32) * k))), (0, .ref ma), (1, .int i), (2, .int k), (3, .int j)]) hx hb dX6_takes_126 hl (by decide) rfl (fun ls hl => ?_)
    obtain ⟨⟨q13, q14, q15⟩, hq21, hf⟩ := bd_inv hf
    refine L128 1000 0 mf (upd (upd (upd (upd (upd mw (((((14 : Int32) * i) + ((5 : Int32) * k)) + 0).toNatClampNeg) (mof ((((8 : Int32) * j) + 1).toNatClampNeg))) (((((14 : Int32) * i) + ((5 : Int32) * k)) + 1).toNatClampNeg) 0) (((((14 : Int32) * i) + ((5 : Int32) * k)) + 2).toNatClampNeg) (mof ((((8 : Int32) * j) + 2).toNatClampNeg))) (((((14 : Int32) * i) + ((5 : Int32) * k)) + 3).toNatClampNeg) 0) (((((14 : Int32) * i) + ((5 : Int32) * k)) + 4).toNatClampNeg) j) (q13, q14, q15) hq21 H locs ls hP hD hS (lv_sub hl [0, 1, 2, 3, 4, 5] rfl) (fun H locs ls hP hD hS hl => ?_)
    have hP : va_P D vwCl [(ma, .inr (6, [.int mst, .int mwy, .int mmk, .int mwt, .ref m1, .ref m2, .ref m3, .ref m4, .int mun, .ref m5, .ref m6, .int mln, .int mfi, .int mbe, .int mrs, .int mrw, .int mcl, .int mdo, .int mnu, .ref m7, .ref m8, .ref m9, .ref m10])), (m1, .inl (cI, 24, .inl mvl)), (m2, .inl (cI, 96, .inl mof)), (m3, .inl (cI, 168, .inl q14)), (m4, .inl (cF, 288, .inr (.inr (.inl q15)))), (m5, .inl (cZ, 2, .inl mik)), (m6, .inl (cI, 200, .inl mtx)), (m7, .inl (cI, 56, .inl mwd)), (m8, .inl (cI, 3, .inl msz)), (m9, .inl (cI, 3, .inl mso)), (m10, .inl (cI, 24, .inl mpl))] H := hP
    have hD : va_D A [(ma, .inr (6, [.int mst, .int mwy, .int mmk, .int mwt, .ref m1, .ref m2, .ref m3, .ref m4, .int mun, .ref m5, .ref m6, .int mln, .int mfi, .int mbe, .int mrs, .int mrw, .int mcl, .int mdo, .int mnu, .ref m7, .ref m8, .ref m9, .ref m10])), (m1, .inl (cI, 24, .inl mvl)), (m2, .inl (cI, 96, .inl mof)), (m3, .inl (cI, 168, .inl q14)), (m4, .inl (cF, 288, .inr (.inr (.inl q15)))), (m5, .inl (cZ, 2, .inl mik)), (m6, .inl (cI, 200, .inl mtx)), (m7, .inl (cI, 56, .inl mwd)), (m8, .inl (cI, 3, .inl msz)), (m9, .inl (cI, 3, .inl mso)), (m10, .inl (cI, 24, .inl mpl))] := hD
    have hl : lv_has ls 6 [(5, .int q13), (4, .int (((14 : Int32) * i) + ((5 : Int32) * k))), (0, .ref ma), (1, .int i), (2, .int k), (3, .int j)] := hl
    refine lv_aload_n hx hb dX6_takes_178 rfl (lv_at hl 2 rfl) ?_
    refine va_get (D := D) (ci := 6) (v := .ref m2) (C := RX6) (T := TX6) (N := 23) hx hb hts w0 hown hK hP 0 rfl rfl 5 (by decide) w1 (fun _ h9 => h9) rfl dX6_takes_179 ?_
    refine lv_bipush (v := 8) hx hb dX6_takes_182 (by decide) ?_
    refine lv_iload_n hx hb dX6_takes_184 rfl (lv_at hl 5 rfl) ?_
    refine lv_imul hx hb dX6_takes_185 ?_
    refine lv_iconst (v := 2) hx hb dX6_takes_186 (by decide) ?_
    refine lv_iadd hx hb dX6_takes_187 ?_
    obtain ⟨g16, hf⟩ := gd_inv hf
    refine va_iald hx hb hK hP 2 2 rfl rfl g16 dX6_takes_188 ?_
    refine lv_if_ne (tgt := 198) hx hb dX6_takes_189 (by decide) (fun c17 => ?_) (fun c17 => ?_)
    · have hf := if_n c17 hf
      have h1 := Option.some.inj hf
      subst h1
      rw [hQ]
      exact W.vret hx hb hr (fun t ht hW => qEnd hP hS ht) hS.2.2 dX6_takes_198
    · have hf := if_p c17 hf
      refine lv_aload_n hx hb dX6_takes_192 rfl (lv_at hl 2 rfl) ?_
      refine lv_iload_n hx hb dX6_takes_193 rfl (lv_at hl 3 rfl) ?_
      refine lv_iload_n hx hb dX6_takes_194 rfl (lv_at hl 4 rfl) ?_
      obtain ⟨⟨o18, o19⟩, hc20, hf⟩ := bd_inv hf
      refine xcV (As := [.int i, .int k]) (rest := []) (ws' := [(ma, .inr (6, [.int mst, .int mwy, .int mmk, .int mwt, .ref m1, .ref m2, .ref m3, .ref m4, .int mun, .ref m5, .ref m6, .int mln, .int mfi, .int mbe, .int mrs, .int mrw, .int mcl, .int mdo, .int mnu, .ref m7, .ref m8, .ref m9, .ref m10])), (m1, .inl (cI, 24, .inl mvl)), (m2, .inl (cI, 96, .inl mof)), (m3, .inl (cI, 168, .inl o18)), (m4, .inl (cF, 288, .inr (.inr (.inl o19)))), (m5, .inl (cZ, 2, .inl mik)), (m6, .inl (cI, 200, .inl mtx)), (m7, .inl (cI, 56, .inl mwd)), (m8, .inl (cI, 3, .inl msz)), (m9, .inl (cI, 3, .inl mso)), (m10, .inl (cI, 24, .inl mpl))]) ⟨hx, hb, hml, hown, hts⟩ (c_X6_steadies l D B adK adV cC cF cI cZ cM cS ma mst mwy mmk mwt m1 m2 m3 m4 mun m5 m6 mln mfi mbe mrs mrw mcl mdo mnu m7 m8 m9 m10 mvl mof q14 q15 mik mtx mwd msz mso mpl i k  (o18, o19) hc20) (cwV 2 hts gX6_takes_X6_steadies rfl rfl rfl (by decide +kernel) ⟨Nat.le_of_ble_eq_true rfl, Nat.le_of_ble_eq_true rfl⟩) (va_recv hK hP (ci := 6) (q0 := 0) rfl rfl) hK hP hD hS hB hE [0, 1, 2, 3, 4, 5, 6, 7, 8, 9, 10] rfl rfl rfl rfl rfl hl.1 rfl (Nat.le_of_ble_eq_true rfl) dX6_takes_195 ⟨Nat.le_of_ble_eq_true rfl, Nat.le_of_ble_eq_true rfl⟩ (fun H locs hP hD hS => ?_)
      refine W.eq (g2 := F0 m 198 ls []) rfl ?_
      have h1 := Option.some.inj hf
      subst h1
      rw [hQ]
      exact W.vret hx hb hr (fun t ht hW => qEnd hP hS ht) hS.2.2 dX6_takes_198
  · have hf := if_p c2 hf
    refine lv_aload_n hx hb dX6_takes_25 rfl (lv_at hl 1 rfl) ?_
    refine va_get (D := D) (ci := 6) (v := .ref m3) (C := RX6) (T := TX6) (N := 23) hx hb hts w0 hown hK hP 0 rfl rfl 6 (by decide) w2 (fun _ h9 => h9) rfl dX6_takes_26 ?_
    refine lv_bipush (v := 14) hx hb dX6_takes_29 (by decide) ?_
    refine lv_iload_n hx hb dX6_takes_31 rfl (lv_at hl 2 rfl) ?_
    refine lv_imul hx hb dX6_takes_32 ?_
    refine lv_bipush (v := 13) hx hb dX6_takes_33 (by decide) ?_
    refine lv_iadd hx hb dX6_takes_35 ?_
    refine lv_dup2_11 hx hb dX6_takes_36 rfl rfl ?_
    obtain ⟨g22, hf⟩ := gd_inv hf
    refine va_iald hx hb hK hP 3 2 rfl rfl g22 dX6_takes_37 ?_
    refine lv_iconst (v := 1) hx hb dX6_takes_38 (by decide) ?_
    refine lv_aload_n hx hb dX6_takes_39 rfl (lv_at hl 1 rfl) ?_
    refine va_get (D := D) (ci := 6) (v := .ref m2) (C := RX6) (T := TX6) (N := 23) hx hb hts w0 hown hK hP 0 rfl rfl 5 (by decide) w1 (fun _ h9 => h9) rfl dX6_takes_40 ?_
    refine lv_bipush (v := 8) hx hb dX6_takes_43 (by decide) ?_
    refine lv_iload_n hx hb dX6_takes_45 rfl (lv_at hl 4 rfl) ?_
    refine lv_imul hx hb dX6_takes_46 ?_
    refine lv_iconst (v := 5) hx hb dX6_takes_47 (by decide) ?_
    refine lv_iadd hx hb dX6_takes_48 ?_
    obtain ⟨g23, hf⟩ := gd_inv hf
    refine va_iald hx hb hK hP 2 2 rfl rfl g23 dX6_takes_49 ?_
    refine lv_ishl hx hb dX6_takes_50 ?_
    refine lv_iconst (v := (-1)) hx hb dX6_takes_51 (by decide) ?_
    refine lv_ixor hx hb dX6_takes_52 ?_
    refine lv_iand hx hb dX6_takes_53 ?_
    obtain ⟨g24, hf⟩ := gd_inv hf
    refine va_iast hx hb hK hP hD hS 3 2 rfl rfl g24 dX6_takes_54 (fun H locs hP hD hS => ?_)
    have hP : va_P D vwCl [(ma, .inr (6, [.int mst, .int mwy, .int mmk, .int mwt, .ref m1, .ref m2, .ref m3, .ref m4, .int mun, .ref m5, .ref m6, .int mln, .int mfi, .int mbe, .int mrs, .int mrw, .int mcl, .int mdo, .int mnu, .ref m7, .ref m8, .ref m9, .ref m10])), (m1, .inl (cI, 24, .inl mvl)), (m2, .inl (cI, 96, .inl mof)), (m3, .inl (cI, 168, .inl (upd mw ((((14 : Int32) * i) + 13).toNatClampNeg) ((mw ((((14 : Int32) * i) + 13).toNatClampNeg)) &&& (((1 : Int32) <<< ((mof ((((8 : Int32) * j) + 5).toNatClampNeg)) &&& 31)) ^^^ (-1)))))), (m4, .inl (cF, 288, .inr (.inr (.inl mf)))), (m5, .inl (cZ, 2, .inl mik)), (m6, .inl (cI, 200, .inl mtx)), (m7, .inl (cI, 56, .inl mwd)), (m8, .inl (cI, 3, .inl msz)), (m9, .inl (cI, 3, .inl mso)), (m10, .inl (cI, 24, .inl mpl))] H := hP
    have hD : va_D A [(ma, .inr (6, [.int mst, .int mwy, .int mmk, .int mwt, .ref m1, .ref m2, .ref m3, .ref m4, .int mun, .ref m5, .ref m6, .int mln, .int mfi, .int mbe, .int mrs, .int mrw, .int mcl, .int mdo, .int mnu, .ref m7, .ref m8, .ref m9, .ref m10])), (m1, .inl (cI, 24, .inl mvl)), (m2, .inl (cI, 96, .inl mof)), (m3, .inl (cI, 168, .inl (upd mw ((((14 : Int32) * i) + 13).toNatClampNeg) ((mw ((((14 : Int32) * i) + 13).toNatClampNeg)) &&& (((1 : Int32) <<< ((mof ((((8 : Int32) * j) + 5).toNatClampNeg)) &&& 31)) ^^^ (-1)))))), (m4, .inl (cF, 288, .inr (.inr (.inl mf)))), (m5, .inl (cZ, 2, .inl mik)), (m6, .inl (cI, 200, .inl mtx)), (m7, .inl (cI, 56, .inl mwd)), (m8, .inl (cI, 3, .inl msz)), (m9, .inl (cI, 3, .inl mso)), (m10, .inl (cI, 24, .inl mpl))] := hD
    refine lv_aload_n hx hb dX6_takes_55 rfl (lv_at hl 1 rfl) ?_
    refine va_get (D := D) (ci := 6) (v := .ref m3) (C := RX6) (T := TX6) (N := 23) hx hb hts w0 hown hK hP 0 rfl rfl 6 (by decide) w2 (fun _ h9 => h9) rfl dX6_takes_56 ?_
    refine lv_iload hx hb dX6_takes_59 (lv_at hl 0 rfl) ?_
    refine lv_iconst (v := 0) hx hb dX6_takes_61 (by decide) ?_
    refine lv_iadd hx hb dX6_takes_62 ?_
    refine lv_aload_n hx hb dX6_takes_63 rfl (lv_at hl 1 rfl) ?_
    refine va_get (D := D) (ci := 6) (v := .ref m2) (C := RX6) (T := TX6) (N := 23) hx hb hts w0 hown hK hP 0 rfl rfl 5 (by decide) w1 (fun _ h9 => h9) rfl dX6_takes_64 ?_
    refine lv_bipush (v := 8) hx hb dX6_takes_67 (by decide) ?_
    refine lv_iload_n hx hb dX6_takes_69 rfl (lv_at hl 4 rfl) ?_
    refine lv_imul hx hb dX6_takes_70 ?_
    refine lv_iconst (v := 1) hx hb dX6_takes_71 (by decide) ?_
    refine lv_iadd hx hb dX6_takes_72 ?_
    obtain ⟨g25, hf⟩ := gd_inv hf
    refine va_iald hx hb hK hP 2 2 rfl rfl g25 dX6_takes_73 ?_
    obtain ⟨g26, hf⟩ := gd_inv hf
    refine va_iast hx hb hK hP hD hS 3 2 rfl rfl g26 dX6_takes_74 (fun H locs hP hD hS => ?_)
    have hP : va_P D vwCl [(ma, .inr (6, [.int mst, .int mwy, .int mmk, .int mwt, .ref m1, .ref m2, .ref m3, .ref m4, .int mun, .ref m5, .ref m6, .int mln, .int mfi, .int mbe, .int mrs, .int mrw, .int mcl, .int mdo, .int mnu, .ref m7, .ref m8, .ref m9, .ref m10])), (m1, .inl (cI, 24, .inl mvl)), (m2, .inl (cI, 96, .inl mof)), (m3, .inl (cI, 168, .inl (upd (upd mw ((((14 : Int32) * i) + 13).toNatClampNeg) ((mw ((((14 : Int32) * i) + 13).toNatClampNeg)) &&& (((1 : Int32) <<< ((mof ((((8 : Int32) * j) + 5).toNatClampNeg)) &&& 31)) ^^^ (-1)))) (((((14 : Int32) * i) + ((5 : Int32) * k)) + 0).toNatClampNeg) (mof ((((8 : Int32) * j) + 1).toNatClampNeg))))), (m4, .inl (cF, 288, .inr (.inr (.inl mf)))), (m5, .inl (cZ, 2, .inl mik)), (m6, .inl (cI, 200, .inl mtx)), (m7, .inl (cI, 56, .inl mwd)), (m8, .inl (cI, 3, .inl msz)), (m9, .inl (cI, 3, .inl mso)), (m10, .inl (cI, 24, .inl mpl))] H := hP
    have hD : va_D A [(ma, .inr (6, [.int mst, .int mwy, .int mmk, .int mwt, .ref m1, .ref m2, .ref m3, .ref m4, .int mun, .ref m5, .ref m6, .int mln, .int mfi, .int mbe, .int mrs, .int mrw, .int mcl, .int mdo, .int mnu, .ref m7, .ref m8, .ref m9, .ref m10])), (m1, .inl (cI, 24, .inl mvl)), (m2, .inl (cI, 96, .inl mof)), (m3, .inl (cI, 168, .inl (upd (upd mw ((((14 : Int32) * i) + 13).toNatClampNeg) ((mw ((((14 : Int32) * i) + 13).toNatClampNeg)) &&& (((1 : Int32) <<< ((mof ((((8 : Int32) * j) + 5).toNatClampNeg)) &&& 31)) ^^^ (-1)))) (((((14 : Int32) * i) + ((5 : Int32) * k)) + 0).toNatClampNeg) (mof ((((8 : Int32) * j) + 1).toNatClampNeg))))), (m4, .inl (cF, 288, .inr (.inr (.inl mf)))), (m5, .inl (cZ, 2, .inl mik)), (m6, .inl (cI, 200, .inl mtx)), (m7, .inl (cI, 56, .inl mwd)), (m8, .inl (cI, 3, .inl msz)), (m9, .inl (cI, 3, .inl mso)), (m10, .inl (cI, 24, .inl mpl))] := hD
    refine lv_aload_n hx hb dX6_takes_75 rfl (lv_at hl 1 rfl) ?_
    refine va_get (D := D) (ci := 6) (v := .ref m3) (C := RX6) (T := TX6) (N := 23) hx hb hts w0 hown hK hP 0 rfl rfl 6 (by decide) w2 (fun _ h9 => h9) rfl dX6_takes_76 ?_
    refine lv_iload hx hb dX6_takes_79 (lv_at hl 0 rfl) ?_
    refine lv_iconst (v := 1) hx hb dX6_takes_81 (by decide) ?_
    refine lv_iadd hx hb dX6_takes_82 ?_
    refine lv_iconst (v := 0) hx hb dX6_takes_83 (by decide) ?_
    obtain ⟨g27, hf⟩ := gd_inv hf
    refine va_iast hx hb hK hP hD hS 3 2 rfl rfl g27 dX6_takes_84 (fun H locs hP hD hS => ?_)
    have hP : va_P D vwCl [(ma, .inr (6, [.int mst, .int mwy, .int mmk, .int mwt, .ref m1, .ref m2, .ref m3, .ref m4, .int mun, .ref m5, .ref m6, .int mln, .int mfi, .int mbe, .int mrs, .int mrw, .int mcl, .int mdo, .int mnu, .ref m7, .ref m8, .ref m9, .ref m10])), (m1, .inl (cI, 24, .inl mvl)), (m2, .inl (cI, 96, .inl mof)), (m3, .inl (cI, 168, .inl (upd (upd (upd mw ((((14 : Int32) * i) + 13).toNatClampNeg) ((mw ((((14 : Int32) * i) + 13).toNatClampNeg)) &&& (((1 : Int32) <<< ((mof ((((8 : Int32) * j) + 5).toNatClampNeg)) &&& 31)) ^^^ (-1)))) (((((14 : Int32) * i) + ((5 : Int32) * k)) + 0).toNatClampNeg) (mof ((((8 : Int32) * j) + 1).toNatClampNeg))) (((((14 : Int32) * i) + ((5 : Int32) * k)) + 1).toNatClampNeg) 0))), (m4, .inl (cF, 288, .inr (.inr (.inl mf)))), (m5, .inl (cZ, 2, .inl mik)), (m6, .inl (cI, 200, .inl mtx)), (m7, .inl (cI, 56, .inl mwd)), (m8, .inl (cI, 3, .inl msz)), (m9, .inl (cI, 3, .inl mso)), (m10, .inl (cI, 24, .inl mpl))] H := hP
    have hD : va_D A [(ma, .inr (6, [.int mst, .int mwy, .int mmk, .int mwt, .ref m1, .ref m2, .ref m3, .ref m4, .int mun, .ref m5, .ref m6, .int mln, .int mfi, .int mbe, .int mrs, .int mrw, .int mcl, .int mdo, .int mnu, .ref m7, .ref m8, .ref m9, .ref m10])), (m1, .inl (cI, 24, .inl mvl)), (m2, .inl (cI, 96, .inl mof)), (m3, .inl (cI, 168, .inl (upd (upd (upd mw ((((14 : Int32) * i) + 13).toNatClampNeg) ((mw ((((14 : Int32) * i) + 13).toNatClampNeg)) &&& (((1 : Int32) <<< ((mof ((((8 : Int32) * j) + 5).toNatClampNeg)) &&& 31)) ^^^ (-1)))) (((((14 : Int32) * i) + ((5 : Int32) * k)) + 0).toNatClampNeg) (mof ((((8 : Int32) * j) + 1).toNatClampNeg))) (((((14 : Int32) * i) + ((5 : Int32) * k)) + 1).toNatClampNeg) 0))), (m4, .inl (cF, 288, .inr (.inr (.inl mf)))), (m5, .inl (cZ, 2, .inl mik)), (m6, .inl (cI, 200, .inl mtx)), (m7, .inl (cI, 56, .inl mwd)), (m8, .inl (cI, 3, .inl msz)), (m9, .inl (cI, 3, .inl mso)), (m10, .inl (cI, 24, .inl mpl))] := hD
    refine lv_aload_n hx hb dX6_takes_85 rfl (lv_at hl 1 rfl) ?_
    refine va_get (D := D) (ci := 6) (v := .ref m3) (C := RX6) (T := TX6) (N := 23) hx hb hts w0 hown hK hP 0 rfl rfl 6 (by decide) w2 (fun _ h9 => h9) rfl dX6_takes_86 ?_
    refine lv_iload hx hb dX6_takes_89 (lv_at hl 0 rfl) ?_
    refine lv_iconst (v := 2) hx hb dX6_takes_91 (by decide) ?_
    refine lv_iadd hx hb dX6_takes_92 ?_
    refine lv_aload_n hx hb dX6_takes_93 rfl (lv_at hl 1 rfl) ?_
    refine va_get (D := D) (ci := 6) (v := .ref m2) (C := RX6) (T := TX6) (N := 23) hx hb hts w0 hown hK hP 0 rfl rfl 5 (by decide) w1 (fun _ h9 => h9) rfl dX6_takes_94 ?_
    refine lv_bipush (v := 8) hx hb dX6_takes_97 (by decide) ?_
    refine lv_iload_n hx hb dX6_takes_99 rfl (lv_at hl 4 rfl) ?_
    refine lv_imul hx hb dX6_takes_100 ?_
    refine lv_iconst (v := 2) hx hb dX6_takes_101 (by decide) ?_
    refine lv_iadd hx hb dX6_takes_102 ?_
    obtain ⟨g28, hf⟩ := gd_inv hf
    refine va_iald hx hb hK hP 2 2 rfl rfl g28 dX6_takes_103 ?_
    obtain ⟨g29, hf⟩ := gd_inv hf
    refine va_iast hx hb hK hP hD hS 3 2 rfl rfl g29 dX6_takes_104 (fun H locs hP hD hS => ?_)
    have hP : va_P D vwCl [(ma, .inr (6, [.int mst, .int mwy, .int mmk, .int mwt, .ref m1, .ref m2, .ref m3, .ref m4, .int mun, .ref m5, .ref m6, .int mln, .int mfi, .int mbe, .int mrs, .int mrw, .int mcl, .int mdo, .int mnu, .ref m7, .ref m8, .ref m9, .ref m10])), (m1, .inl (cI, 24, .inl mvl)), (m2, .inl (cI, 96, .inl mof)), (m3, .inl (cI, 168, .inl (upd (upd (upd (upd mw ((((14 : Int32) * i) + 13).toNatClampNeg) ((mw ((((14 : Int32) * i) + 13).toNatClampNeg)) &&& (((1 : Int32) <<< ((mof ((((8 : Int32) * j) + 5).toNatClampNeg)) &&& 31)) ^^^ (-1)))) (((((14 : Int32) * i) + ((5 : Int32) * k)) + 0).toNatClampNeg) (mof ((((8 : Int32) * j) + 1).toNatClampNeg))) (((((14 : Int32) * i) + ((5 : Int32) * k)) + 1).toNatClampNeg) 0) (((((14 : Int32) * i) + ((5 : Int32) * k)) + 2).toNatClampNeg) (mof ((((8 : Int32) * j) + 2).toNatClampNeg))))), (m4, .inl (cF, 288, .inr (.inr (.inl mf)))), (m5, .inl (cZ, 2, .inl mik)), (m6, .inl (cI, 200, .inl mtx)), (m7, .inl (cI, 56, .inl mwd)), (m8, .inl (cI, 3, .inl msz)), (m9, .inl (cI, 3, .inl mso)), (m10, .inl (cI, 24, .inl mpl))] H := hP
    have hD : va_D A [(ma, .inr (6, [.int mst, .int mwy, .int mmk, .int mwt, .ref m1, .ref m2, .ref m3, .ref m4, .int mun, .ref m5, .ref m6, .int mln, .int mfi, .int mbe, .int mrs, .int mrw, .int mcl, .int mdo, .int mnu, .ref m7, .ref m8, .ref m9, .ref m10])), (m1, .inl (cI, 24, .inl mvl)), (m2, .inl (cI, 96, .inl mof)), (m3, .inl (cI, 168, .inl (upd (upd (upd (upd mw ((((14 : Int32) * i) + 13).toNatClampNeg) ((mw ((((14 : Int32) * i) + 13).toNatClampNeg)) &&& (((1 : Int32) <<< ((mof ((((8 : Int32) * j) + 5).toNatClampNeg)) &&& 31)) ^^^ (-1)))) (((((14 : Int32) * i) + ((5 : Int32) * k)) + 0).toNatClampNeg) (mof ((((8 : Int32) * j) + 1).toNatClampNeg))) (((((14 : Int32) * i) + ((5 : Int32) * k)) + 1).toNatClampNeg) 0) (((((14 : Int32) * i) + ((5 : Int32) * k)) + 2).toNatClampNeg) (mof ((((8 : Int32) * j) + 2).toNatClampNeg))))), (m4, .inl (cF, 288, .inr (.inr (.inl mf)))), (m5, .inl (cZ, 2, .inl mik)), (m6, .inl (cI, 200, .inl mtx)), (m7, .inl (cI, 56, .inl mwd)), (m8, .inl (cI, 3, .inl msz)), (m9, .inl (cI, 3, .inl mso)), (m10, .inl (cI, 24, .inl mpl))] := hD
    refine lv_aload_n hx hb dX6_takes_105 rfl (lv_at hl 1 rfl) ?_
    refine va_get (D := D) (ci := 6) (v := .ref m3) (C := RX6) (T := TX6) (N := 23) hx hb hts w0 hown hK hP 0 rfl rfl 6 (by decide) w2 (fun _ h9 => h9) rfl dX6_takes_106 ?_
    refine lv_iload hx hb dX6_takes_109 (lv_at hl 0 rfl) ?_
    refine lv_iconst (v := 3) hx hb dX6_takes_111 (by decide) ?_
    refine lv_iadd hx hb dX6_takes_112 ?_
    refine lv_iconst (v := 0) hx hb dX6_takes_113 (by decide) ?_
    obtain ⟨g30, hf⟩ := gd_inv hf
    refine va_iast hx hb hK hP hD hS 3 2 rfl rfl g30 dX6_takes_114 (fun H locs hP hD hS => ?_)
    have hP : va_P D vwCl [(ma, .inr (6, [.int mst, .int mwy, .int mmk, .int mwt, .ref m1, .ref m2, .ref m3, .ref m4, .int mun, .ref m5, .ref m6, .int mln, .int mfi, .int mbe, .int mrs, .int mrw, .int mcl, .int mdo, .int mnu, .ref m7, .ref m8, .ref m9, .ref m10])), (m1, .inl (cI, 24, .inl mvl)), (m2, .inl (cI, 96, .inl mof)), (m3, .inl (cI, 168, .inl (upd (upd (upd (upd (upd mw ((((14 : Int32) * i) + 13).toNatClampNeg) ((mw ((((14 : Int32) * i) + 13).toNatClampNeg)) &&& (((1 : Int32) <<< ((mof ((((8 : Int32) * j) + 5).toNatClampNeg)) &&& 31)) ^^^ (-1)))) (((((14 : Int32) * i) + ((5 : Int32) * k)) + 0).toNatClampNeg) (mof ((((8 : Int32) * j) + 1).toNatClampNeg))) (((((14 : Int32) * i) + ((5 : Int32) * k)) + 1).toNatClampNeg) 0) (((((14 : Int32) * i) + ((5 : Int32) * k)) + 2).toNatClampNeg) (mof ((((8 : Int32) * j) + 2).toNatClampNeg))) (((((14 : Int32) * i) + ((5 : Int32) * k)) + 3).toNatClampNeg) 0))), (m4, .inl (cF, 288, .inr (.inr (.inl mf)))), (m5, .inl (cZ, 2, .inl mik)), (m6, .inl (cI, 200, .inl mtx)), (m7, .inl (cI, 56, .inl mwd)), (m8, .inl (cI, 3, .inl msz)), (m9, .inl (cI, 3, .inl mso)), (m10, .inl (cI, 24, .inl mpl))] H := hP
    have hD : va_D A [(ma, .inr (6, [.int mst, .int mwy, .int mmk, .int mwt, .ref m1, .ref m2, .ref m3, .ref m4, .int mun, .ref m5, .ref m6, .int mln, .int mfi, .int mbe, .int mrs, .int mrw, .int mcl, .int mdo, .int mnu, .ref m7, .ref m8, .ref m9, .ref m10])), (m1, .inl (cI, 24, .inl mvl)), (m2, .inl (cI, 96, .inl mof)), (m3, .inl (cI, 168, .inl (upd (upd (upd (upd (upd mw ((((14 : Int32) * i) + 13).toNatClampNeg) ((mw ((((14 : Int32) * i) + 13).toNatClampNeg)) &&& (((1 : Int32) <<< ((mof ((((8 : Int32) * j) + 5).toNatClampNeg)) &&& 31)) ^^^ (-1)))) (((((14 : Int32) * i) + ((5 : Int32) * k)) + 0).toNatClampNeg) (mof ((((8 : Int32) * j) + 1).toNatClampNeg))) (((((14 : Int32) * i) + ((5 : Int32) * k)) + 1).toNatClampNeg) 0) (((((14 : Int32) * i) + ((5 : Int32) * k)) + 2).toNatClampNeg) (mof ((((8 : Int32) * j) + 2).toNatClampNeg))) (((((14 : Int32) * i) + ((5 : Int32) * k)) + 3).toNatClampNeg) 0))), (m4, .inl (cF, 288, .inr (.inr (.inl mf)))), (m5, .inl (cZ, 2, .inl mik)), (m6, .inl (cI, 200, .inl mtx)), (m7, .inl (cI, 56, .inl mwd)), (m8, .inl (cI, 3, .inl msz)), (m9, .inl (cI, 3, .inl mso)), (m10, .inl (cI, 24, .inl mpl))] := hD
    refine lv_aload_n hx hb dX6_takes_115 rfl (lv_at hl 1 rfl) ?_
    refine va_get (D := D) (ci := 6) (v := .ref m3) (C := RX6) (T := TX6) (N := 23) hx hb hts w0 hown hK hP 0 rfl rfl 6 (by decide) w2 (fun _ h9 => h9) rfl dX6_takes_116 ?_
    refine lv_iload hx hb dX6_takes_119 (lv_at hl 0 rfl) ?_
    refine lv_iconst (v := 4) hx hb dX6_takes_121 (by decide) ?_
    refine lv_iadd hx hb dX6_takes_122 ?_
    refine lv_iload_n hx hb dX6_takes_123 rfl (lv_at hl 4 rfl) ?_
    obtain ⟨g31, hf⟩ := gd_inv hf
    refine va_iast hx hb hK hP hD hS 3 2 rfl rfl g31 dX6_takes_124 (fun H locs hP hD hS => ?_)
    have hP : va_P D vwCl [(ma, .inr (6, [.int mst, .int mwy, .int mmk, .int mwt, .ref m1, .ref m2, .ref m3, .ref m4, .int mun, .ref m5, .ref m6, .int mln, .int mfi, .int mbe, .int mrs, .int mrw, .int mcl, .int mdo, .int mnu, .ref m7, .ref m8, .ref m9, .ref m10])), (m1, .inl (cI, 24, .inl mvl)), (m2, .inl (cI, 96, .inl mof)), (m3, .inl (cI, 168, .inl (upd (upd (upd (upd (upd (upd mw ((((14 : Int32) * i) + 13).toNatClampNeg) ((mw ((((14 : Int32) * i) + 13).toNatClampNeg)) &&& (((1 : Int32) <<< ((mof ((((8 : Int32) * j) + 5).toNatClampNeg)) &&& 31)) ^^^ (-1)))) (((((14 : Int32) * i) + ((5 : Int32) * k)) + 0).toNatClampNeg) (mof ((((8 : Int32) * j) + 1).toNatClampNeg))) (((((14 : Int32) * i) + ((5 : Int32) * k)) + 1).toNatClampNeg) 0) (((((14 : Int32) * i) + ((5 : Int32) * k)) + 2).toNatClampNeg) (mof ((((8 : Int32) * j) + 2).toNatClampNeg))) (((((14 : Int32) * i) + ((5 : Int32) * k)) + 3).toNatClampNeg) 0) (((((14 : Int32) * i) + ((5 : Int32) * k)) + 4).toNatClampNeg) j))), (m4, .inl (cF, 288, .inr (.inr (.inl mf)))), (m5, .inl (cZ, 2, .inl mik)), (m6, .inl (cI, 200, .inl mtx)), (m7, .inl (cI, 56, .inl mwd)), (m8, .inl (cI, 3, .inl msz)), (m9, .inl (cI, 3, .inl mso)), (m10, .inl (cI, 24, .inl mpl))] H := hP
    have hD : va_D A [(ma, .inr (6, [.int mst, .int mwy, .int mmk, .int mwt, .ref m1, .ref m2, .ref m3, .ref m4, .int mun, .ref m5, .ref m6, .int mln, .int mfi, .int mbe, .int mrs, .int mrw, .int mcl, .int mdo, .int mnu, .ref m7, .ref m8, .ref m9, .ref m10])), (m1, .inl (cI, 24, .inl mvl)), (m2, .inl (cI, 96, .inl mof)), (m3, .inl (cI, 168, .inl (upd (upd (upd (upd (upd (upd mw ((((14 : Int32) * i) + 13).toNatClampNeg) ((mw ((((14 : Int32) * i) + 13).toNatClampNeg)) &&& (((1 : Int32) <<< ((mof ((((8 : Int32) * j) + 5).toNatClampNeg)) &&& 31)) ^^^ (-1)))) (((((14 : Int32) * i) + ((5 : Int32) * k)) + 0).toNatClampNeg) (mof ((((8 : Int32) * j) + 1).toNatClampNeg))) (((((14 : Int32) * i) + ((5 : Int32) * k)) + 1).toNatClampNeg) 0) (((((14 : Int32) * i) + ((5 : Int32) * k)) + 2).toNatClampNeg) (mof ((((8 : Int32) * j) + 2).toNatClampNeg))) (((((14 : Int32) * i) + ((5 : Int32) * k)) + 3).toNatClampNeg) 0) (((((14 : Int32) * i) + ((5 : Int32) * k)) + 4).toNatClampNeg) j))), (m4, .inl (cF, 288, .inr (.inr (.inl mf)))), (m5, .inl (cZ, 2, .inl mik)), (m6, .inl (cI, 200, .inl mtx)), (m7, .inl (cI, 56, .inl mwd)), (m8, .inl (cI, 3, .inl msz)), (m9, .inl (cI, 3, .inl mso)), (m10, .inl (cI, 24, .inl mpl))] := hD
    refine lv_iconst (v := 0) hx hb dX6_takes_125 (by decide) ?_
    refine lv_istore (lv' := [(5, .int 0), (4, .int (((14 : Int32) * i) + ((5 : Int32) * k))), (0, .ref ma), (1, .int i), (2, .int k), (3, .int j)]) hx hb dX6_takes_126 hl (by decide) rfl (fun ls hl => ?_)
    obtain ⟨⟨q32, q33, q34⟩, hq40, hf⟩ := bd_inv hf
    refine L128 1000 0 mf (upd (upd (upd (upd (upd (upd mw ((((14 : Int32) * i) + 13).toNatClampNeg) ((mw ((((14 : Int32) * i) + 13).toNatClampNeg)) &&& (((1 : Int32) <<< ((mof ((((8 : Int32) * j) + 5).toNatClampNeg)) &&& 31)) ^^^ (-1)))) (((((14 : Int32) * i) + ((5 : Int32) * k)) + 0).toNatClampNeg) (mof ((((8 : Int32) * j) + 1).toNatClampNeg))) (((((14 : Int32) * i) + ((5 : Int32) * k)) + 1).toNatClampNeg) 0) (((((14 : Int32) * i) + ((5 : Int32) * k)) + 2).toNatClampNeg) (mof ((((8 : Int32) * j) + 2).toNatClampNeg))) (((((14 : Int32) * i) + ((5 : Int32) * k)) + 3).toNatClampNeg) 0) (((((14 : Int32) * i) + ((5 : Int32) * k)) + 4).toNatClampNeg) j) (q32, q33, q34) hq40 H locs ls hP hD hS (lv_sub hl [0, 1, 2, 3, 4, 5] rfl) (fun H locs ls hP hD hS hl => ?_)
    have hP : va_P D vwCl [(ma, .inr (6, [.int mst, .int mwy, .int mmk, .int mwt, .ref m1, .ref m2, .ref m3, .ref m4, .int mun, .ref m5, .ref m6, .int mln, .int mfi, .int mbe, .int mrs, .int mrw, .int mcl, .int mdo, .int mnu, .ref m7, .ref m8, .ref m9, .ref m10])), (m1, .inl (cI, 24, .inl mvl)), (m2, .inl (cI, 96, .inl mof)), (m3, .inl (cI, 168, .inl q33)), (m4, .inl (cF, 288, .inr (.inr (.inl q34)))), (m5, .inl (cZ, 2, .inl mik)), (m6, .inl (cI, 200, .inl mtx)), (m7, .inl (cI, 56, .inl mwd)), (m8, .inl (cI, 3, .inl msz)), (m9, .inl (cI, 3, .inl mso)), (m10, .inl (cI, 24, .inl mpl))] H := hP
    have hD : va_D A [(ma, .inr (6, [.int mst, .int mwy, .int mmk, .int mwt, .ref m1, .ref m2, .ref m3, .ref m4, .int mun, .ref m5, .ref m6, .int mln, .int mfi, .int mbe, .int mrs, .int mrw, .int mcl, .int mdo, .int mnu, .ref m7, .ref m8, .ref m9, .ref m10])), (m1, .inl (cI, 24, .inl mvl)), (m2, .inl (cI, 96, .inl mof)), (m3, .inl (cI, 168, .inl q33)), (m4, .inl (cF, 288, .inr (.inr (.inl q34)))), (m5, .inl (cZ, 2, .inl mik)), (m6, .inl (cI, 200, .inl mtx)), (m7, .inl (cI, 56, .inl mwd)), (m8, .inl (cI, 3, .inl msz)), (m9, .inl (cI, 3, .inl mso)), (m10, .inl (cI, 24, .inl mpl))] := hD
    have hl : lv_has ls 6 [(5, .int q32), (4, .int (((14 : Int32) * i) + ((5 : Int32) * k))), (0, .ref ma), (1, .int i), (2, .int k), (3, .int j)] := hl
    refine lv_aload_n hx hb dX6_takes_178 rfl (lv_at hl 2 rfl) ?_
    refine va_get (D := D) (ci := 6) (v := .ref m2) (C := RX6) (T := TX6) (N := 23) hx hb hts w0 hown hK hP 0 rfl rfl 5 (by decide) w1 (fun _ h9 => h9) rfl dX6_takes_179 ?_
    refine lv_bipush (v := 8) hx hb dX6_takes_182 (by decide) ?_
    refine lv_iload_n hx hb dX6_takes_184 rfl (lv_at hl 5 rfl) ?_
    refine lv_imul hx hb dX6_takes_185 ?_
    refine lv_iconst (v := 2) hx hb dX6_takes_186 (by decide) ?_
    refine lv_iadd hx hb dX6_takes_187 ?_
    obtain ⟨g35, hf⟩ := gd_inv hf
    refine va_iald hx hb hK hP 2 2 rfl rfl g35 dX6_takes_188 ?_
    refine lv_if_ne (tgt := 198) hx hb dX6_takes_189 (by decide) (fun c36 => ?_) (fun c36 => ?_)
    · have hf := if_n c36 hf
      have h1 := Option.some.inj hf
      subst h1
      rw [hQ]
      exact W.vret hx hb hr (fun t ht hW => qEnd hP hS ht) hS.2.2 dX6_takes_198
    · have hf := if_p c36 hf
      refine lv_aload_n hx hb dX6_takes_192 rfl (lv_at hl 2 rfl) ?_
      refine lv_iload_n hx hb dX6_takes_193 rfl (lv_at hl 3 rfl) ?_
      refine lv_iload_n hx hb dX6_takes_194 rfl (lv_at hl 4 rfl) ?_
      obtain ⟨⟨o37, o38⟩, hc39, hf⟩ := bd_inv hf
      refine xcV (As := [.int i, .int k]) (rest := []) (ws' := [(ma, .inr (6, [.int mst, .int mwy, .int mmk, .int mwt, .ref m1, .ref m2, .ref m3, .ref m4, .int mun, .ref m5, .ref m6, .int mln, .int mfi, .int mbe, .int mrs, .int mrw, .int mcl, .int mdo, .int mnu, .ref m7, .ref m8, .ref m9, .ref m10])), (m1, .inl (cI, 24, .inl mvl)), (m2, .inl (cI, 96, .inl mof)), (m3, .inl (cI, 168, .inl o37)), (m4, .inl (cF, 288, .inr (.inr (.inl o38)))), (m5, .inl (cZ, 2, .inl mik)), (m6, .inl (cI, 200, .inl mtx)), (m7, .inl (cI, 56, .inl mwd)), (m8, .inl (cI, 3, .inl msz)), (m9, .inl (cI, 3, .inl mso)), (m10, .inl (cI, 24, .inl mpl))]) ⟨hx, hb, hml, hown, hts⟩ (c_X6_steadies l D B adK adV cC cF cI cZ cM cS ma mst mwy mmk mwt m1 m2 m3 m4 mun m5 m6 mln mfi mbe mrs mrw mcl mdo mnu m7 m8 m9 m10 mvl mof q33 q34 mik mtx mwd msz mso mpl i k  (o37, o38) hc39) (cwV 2 hts gX6_takes_X6_steadies rfl rfl rfl (by decide +kernel) ⟨Nat.le_of_ble_eq_true rfl, Nat.le_of_ble_eq_true rfl⟩) (va_recv hK hP (ci := 6) (q0 := 0) rfl rfl) hK hP hD hS hB hE [0, 1, 2, 3, 4, 5, 6, 7, 8, 9, 10] rfl rfl rfl rfl rfl hl.1 rfl (Nat.le_of_ble_eq_true rfl) dX6_takes_195 ⟨Nat.le_of_ble_eq_true rfl, Nat.le_of_ble_eq_true rfl⟩ (fun H locs hP hD hS => ?_)
      refine W.eq (g2 := F0 m 198 ls []) rfl ?_
      have h1 := Option.some.inj hf
      subst h1
      rw [hQ]
      exact W.vret hx hb hr (fun t ht hW => qEnd hP hS ht) hS.2.2 dX6_takes_198
set_option maxRecDepth 100000 in
set_option maxHeartbeats 4000000 in
theorem c_X6_frames (l : Launch) (D : va_G) (B : Nat) (adK adV : Nat → Nat) (cC cF cI cZ cM cS : ClassId) (ma : Nat) (mst : Int32) (mwy : Int32) (mmk : Int32) (mwt : Int32) (m1 : Nat) (m2 : Nat) (m3 : Nat) (m4 : Nat) (mun : Int32) (m5 : Nat) (m6 : Nat) (mln : Int32) (mfi : Int32) (mbe : Int32) (mrs : Int32) (mrw : Int32) (mcl : Int32) (mdo : Int32) (mnu : Int32) (m7 : Nat) (m8 : Nat) (m9 : Nat) (m10 : Nat) (mvl : Nat → Int32) (mof : Nat → Int32) (mw : Nat → Int32) (mf : Nat → UInt32) (mik : Nat → Int32) (mtx : Nat → Int32) (mwd : Nat → Int32) (msz : Nat → Int32) (mso : Nat → Int32) (mpl : Nat → Int32) (i : Int32) (k : Int32) (zz : (Nat → Int32) × (Nat → UInt32)) (hf : f_X6_frames mwy mof mw mf i k = some zz) : Ct l yX6_frames wsX6_frames { frames := 3, cells := 0, slots := 0, locals := 72 } D B adK adV (tysX cC cF cI cZ cM cS) [.ref ma, .int i, .int k] [(ma, .inr (6, [.int mst, .int mwy, .int mmk, .int mwt, .ref m1, .ref m2, .ref m3, .ref m4, .int mun, .ref m5, .ref m6, .int mln, .int mfi, .int mbe, .int mrs, .int mrw, .int mcl, .int mdo, .int mnu, .ref m7, .ref m8, .ref m9, .ref m10])), (m1, .inl (cI, 24, .inl mvl)), (m2, .inl (cI, 96, .inl mof)), (m3, .inl (cI, 168, .inl mw)), (m4, .inl (cF, 288, .inr (.inr (.inl mf)))), (m5, .inl (cZ, 2, .inl mik)), (m6, .inl (cI, 200, .inl mtx)), (m7, .inl (cI, 56, .inl mwd)), (m8, .inl (cI, 3, .inl msz)), (m9, .inl (cI, 3, .inl mso)), (m10, .inl (cI, 24, .inl mpl))] [(ma, .inr (6, [.int mst, .int mwy, .int mmk, .int mwt, .ref m1, .ref m2, .ref m3, .ref m4, .int mun, .ref m5, .ref m6, .int mln, .int mfi, .int mbe, .int mrs, .int mrw, .int mcl, .int mdo, .int mnu, .ref m7, .ref m8, .ref m9, .ref m10])), (m1, .inl (cI, 24, .inl mvl)), (m2, .inl (cI, 96, .inl mof)), (m3, .inl (cI, 168, .inl zz.1)), (m4, .inl (cF, 288, .inr (.inr (.inl zz.2)))), (m5, .inl (cZ, 2, .inl mik)), (m6, .inl (cI, 200, .inl mtx)), (m7, .inl (cI, 56, .inl mwd)), (m8, .inl (cI, 3, .inl msz)), (m9, .inl (cI, 3, .inl mso)), (m10, .inl (cI, 24, .inl mpl))] none := by
  refine Ct.ofW (cc := cX6_frames) (maxL := 9) (ret := none) (by decide) rfl (Nat.le_of_ble_eq_true rfl) ?_
  intro p e s m args below meth c hx hb hr hml hts hown hlocks hnm hK hE A Q hQ hB H locs ls hP hD hS hl
  have hl : lv_has ls 9 [(0, .ref ma), (1, .int i), (2, .int k)] := hl
  have w0 : ∀ w ∈ u_ws RX6 TX6 23, w ∈ wsX6_frames := by decide +kernel
  have w1 := hts (.fieldLink RX6 20 "MotionStatesModel" "w" "[I") (by decide +kernel)
  have w2 := hts (.fieldLink RX6 23 "MotionStatesModel" "f" "[F") (by decide +kernel)
  have w3 := hts (.fieldLink RX6 17 "MotionStatesModel" "of" "[I") (by decide +kernel)
  have L155 : ∀ (n : Nat) (x7_155 : Int32) (mf_155 : Nat → UInt32) (x6_155 : UInt32) (x5_155 : UInt32) (mw_155 : Nat → Int32) (oo : Int32 × UInt32 × UInt32 × (Nat → Int32) × (Nat → UInt32)), f_X6_frames_L155 i k n x7_155 mf_155 x6_155 x5_155 mw_155 = some oo → ∀ (H : Heap) (locs : List Loc) (ls : Array Slot), va_P D vwCl [(ma, .inr (6, [.int mst, .int mwy, .int mmk, .int mwt, .ref m1, .ref m2, .ref m3, .ref m4, .int mun, .ref m5, .ref m6, .int mln, .int mfi, .int mbe, .int mrs, .int mrw, .int mcl, .int mdo, .int mnu, .ref m7, .ref m8, .ref m9, .ref m10])), (m1, .inl (cI, 24, .inl mvl)), (m2, .inl (cI, 96, .inl mof)), (m3, .inl (cI, 168, .inl mw_155)), (m4, .inl (cF, 288, .inr (.inr (.inl mf_155)))), (m5, .inl (cZ, 2, .inl mik)), (m6, .inl (cI, 200, .inl mtx)), (m7, .inl (cI, 56, .inl mwd)), (m8, .inl (cI, 3, .inl msz)), (m9, .inl (cI, 3, .inl mso)), (m10, .inl (cI, 24, .inl mpl))] H → va_D A [(ma, .inr (6, [.int mst, .int mwy, .int mmk, .int mwt, .ref m1, .ref m2, .ref m3, .ref m4, .int mun, .ref m5, .ref m6, .int mln, .int mfi, .int mbe, .int mrs, .int mrw, .int mcl, .int mdo, .int mnu, .ref m7, .ref m8, .ref m9, .ref m10])), (m1, .inl (cI, 24, .inl mvl)), (m2, .inl (cI, 96, .inl mof)), (m3, .inl (cI, 168, .inl mw_155)), (m4, .inl (cF, 288, .inr (.inr (.inl mf_155)))), (m5, .inl (cZ, 2, .inl mik)), (m6, .inl (cI, 200, .inl mtx)), (m7, .inl (cI, 56, .inl mwd)), (m8, .inl (cI, 3, .inl msz)), (m9, .inl (cI, 3, .inl mso)), (m10, .inl (cI, 24, .inl mpl))] → va_S A s.heap H locs → lv_has ls 9 [(7, .int x7_155), (6, .float x6_155), (5, .float x5_155), (4, .int (mw (((((14 : Int32) * i) + ((5 : Int32) * k)) + 4).toNatClampNeg))), (3, .int (((14 : Int32) * i) + ((5 : Int32) * k))), (0, .ref ma), (1, .int i), (2, .int k)] → (∀ (H : Heap) (locs : List Loc) (ls : Array Slot), va_P D vwCl [(ma, .inr (6, [.int mst, .int mwy, .int mmk, .int mwt, .ref m1, .ref m2, .ref m3, .ref m4, .int mun, .ref m5, .ref m6, .int mln, .int mfi, .int mbe, .int mrs, .int mrw, .int mcl, .int mdo, .int mnu, .ref m7, .ref m8, .ref m9, .ref m10])), (m1, .inl (cI, 24, .inl mvl)), (m2, .inl (cI, 96, .inl mof)), (m3, .inl (cI, 168, .inl oo.2.2.2.1)), (m4, .inl (cF, 288, .inr (.inr (.inl oo.2.2.2.2)))), (m5, .inl (cZ, 2, .inl mik)), (m6, .inl (cI, 200, .inl mtx)), (m7, .inl (cI, 56, .inl mwd)), (m8, .inl (cI, 3, .inl msz)), (m9, .inl (cI, 3, .inl mso)), (m10, .inl (cI, 24, .inl mpl))] H → va_D A [(ma, .inr (6, [.int mst, .int mwy, .int mmk, .int mwt, .ref m1, .ref m2, .ref m3, .ref m4, .int mun, .ref m5, .ref m6, .int mln, .int mfi, .int mbe, .int mrs, .int mrw, .int mcl, .int mdo, .int mnu, .ref m7, .ref m8, .ref m9, .ref m10])), (m1, .inl (cI, 24, .inl mvl)), (m2, .inl (cI, 96, .inl mof)), (m3, .inl (cI, 168, .inl oo.2.2.2.1)), (m4, .inl (cF, 288, .inr (.inr (.inl oo.2.2.2.2)))), (m5, .inl (cZ, 2, .inl mik)), (m6, .inl (cI, 200, .inl mtx)), (m7, .inl (cI, 56, .inl mwd)), (m8, .inl (cI, 3, .inl msz)), (m9, .inl (cI, 3, .inl mso)), (m10, .inl (cI, 24, .inl mpl))] → va_S A s.heap H locs → lv_has ls 9 [(7, .int oo.1), (6, .float oo.2.1), (5, .float oo.2.2.1), (4, .int (mw (((((14 : Int32) * i) + ((5 : Int32) * k)) + 4).toNatClampNeg))), (3, .int (((14 : Int32) * i) + ((5 : Int32) * k))), (0, .ref ma), (1, .int i), (2, .int k)] → W p l e { frames := 3, cells := 0, slots := 0, locals := 72 } s m args below meth c H locs 0 0 Q (F0 m 233 ls [])) → W p l e { frames := 3, cells := 0, slots := 0, locals := 72 } s m args below meth c H locs 0 0 Q (F0 m 155 ls []) := by
    intro n
    induction n with
    | zero => intro x7_155 mf_155 x6_155 x5_155 mw_155 oo hf; exact absurd hf (by simp [f_X6_frames_L155])
    | succ n ih =>
      intro x7_155 mf_155 x6_155 x5_155 mw_155 oo hf H locs ls hP hD hS hl kk
      rw [f_X6_frames_L155] at hf
      refine lv_iload hx hb dX6_frames_155 (lv_at hl 0 rfl) ?_
      refine lv_bipush (v := 6) hx hb dX6_frames_157 (by decide) ?_
      refine lv_icmp_ge (tgt := 233) hx hb dX6_frames_159 (by decide) (fun c17 => ?_) (fun c17 => ?_)
      · have hf := if_p c17 hf
        have h1 := Option.some.inj hf
        subst h1
        exact kk H locs ls hP hD hS (lv_sub hl [0, 1, 2, 3, 4, 5, 6, 7] rfl)
      · have hf := if_n c17 hf
        refine lv_aload_n hx hb dX6_frames_162 rfl (lv_at hl 5 rfl) ?_
        refine va_get (D := D) (ci := 6) (v := .ref m4) (C := RX6) (T := TX6) (N := 23) hx hb hts w0 hown hK hP 0 rfl rfl 7 (by decide) w2 (fun _ h9 => h9) rfl dX6_frames_163 ?_
        refine lv_bipush (v := 24) hx hb dX6_frames_166 (by decide) ?_
        refine lv_iload_n hx hb dX6_frames_168 rfl (lv_at hl 6 rfl) ?_
        refine lv_imul hx hb dX6_frames_169 ?_
        refine lv_bipush (v := 12) hx hb dX6_frames_170 (by decide) ?_
        refine lv_iadd hx hb dX6_frames_172 ?_
        refine lv_bipush (v := 6) hx hb dX6_frames_173 (by decide) ?_
        refine lv_iload_n hx hb dX6_frames_175 rfl (lv_at hl 7 rfl) ?_
        refine lv_imul hx hb dX6_frames_176 ?_
        refine lv_iadd hx hb dX6_frames_177 ?_
        refine lv_iload hx hb dX6_frames_178 (lv_at hl 0 rfl) ?_
        refine lv_iadd hx hb dX6_frames_180 ?_
        obtain ⟨g18, hf⟩ := gd_inv hf
        refine va_fald hx hb hK hP 4 1 rfl rfl g18 dX6_frames_181 ?_
        refine lv_fload hx hb dX6_frames_182 (lv_at hl 1 rfl) ?_
        obtain ⟨g19, hf⟩ := gd_inv hf
        refine lv_fmul hx hb dX6_frames_184 g19 ?_
        refine lv_fstore (lv' := [(8, .float (FP.fmul (mf_155 ((((((24 : Int32) * i) + 12) + ((6 : Int32) * k)) + x7_155).toNatClampNeg)) x6_155)), (7, .int x7_155), (6, .float x6_155), (5, .float x5_155), (4, .int (mw (((((14 : Int32) * i) + ((5 : Int32) * k)) + 4).toNatClampNeg))), (3, .int (((14 : Int32) * i) + ((5 : Int32) * k))), (0, .ref ma), (1, .int i), (2, .int k)]) hx hb dX6_frames_185 hl (by decide) rfl (fun ls hl => ?_)
        refine lv_aload_n hx hb dX6_frames_187 rfl (lv_at hl 6 rfl) ?_
        refine va_get (D := D) (ci := 6) (v := .ref m4) (C := RX6) (T := TX6) (N := 23) hx hb hts w0 hown hK hP 0 rfl rfl 7 (by decide) w2 (fun _ h9 => h9) rfl dX6_frames_188 ?_
        refine lv_bipush (v := 24) hx hb dX6_frames_191 (by decide) ?_
        refine lv_iload_n hx hb dX6_frames_193 rfl (lv_at hl 7 rfl) ?_
        refine lv_imul hx hb dX6_frames_194 ?_
        refine lv_bipush (v := 6) hx hb dX6_frames_195 (by decide) ?_
        refine lv_iload_n hx hb dX6_frames_197 rfl (lv_at hl 8 rfl) ?_
        refine lv_imul hx hb dX6_frames_198 ?_
        refine lv_iadd hx hb dX6_frames_199 ?_
        refine lv_iload hx hb dX6_frames_200 (lv_at hl 1 rfl) ?_
        refine lv_iadd hx hb dX6_frames_202 ?_
        refine lv_iload hx hb dX6_frames_203 (lv_at hl 1 rfl) ?_
        refine lv_aload_n hx hb dX6_frames_205 rfl (lv_at hl 6 rfl) ?_
        refine va_get (D := D) (ci := 6) (v := .ref m3) (C := RX6) (T := TX6) (N := 23) hx hb hts w0 hown hK hP 0 rfl rfl 6 (by decide) w1 (fun _ h9 => h9) rfl dX6_frames_206 ?_
        refine lv_iload_n hx hb dX6_frames_209 rfl (lv_at hl 5 rfl) ?_
        refine lv_iconst (v := 0) hx hb dX6_frames_210 (by decide) ?_
        refine lv_iadd hx hb dX6_frames_211 ?_
        obtain ⟨g20, hf⟩ := gd_inv hf
        refine va_iald hx hb hK hP 3 2 rfl rfl g20 dX6_frames_212 ?_
        refine lv_icmp_ne (tgt := 224) hx hb dX6_frames_213 (by decide) (fun c21 => ?_) (fun c21 => ?_)
        · have hf := if_n c21 hf
          refine lv_fload hx hb dX6_frames_224 (lv_at hl 0 rfl) ?_
          obtain ⟨g22, hf⟩ := gd_inv hf
          refine va_fast hx hb hK hP hD hS 4 1 rfl rfl g22 dX6_frames_226 (fun H locs hP hD hS => ?_)
          have hP : va_P D vwCl [(ma, .inr (6, [.int mst, .int mwy, .int mmk, .int mwt, .ref m1, .ref m2, .ref m3, .ref m4, .int mun, .ref m5, .ref m6, .int mln, .int mfi, .int mbe, .int mrs, .int mrw, .int mcl, .int mdo, .int mnu, .ref m7, .ref m8, .ref m9, .ref m10])), (m1, .inl (cI, 24, .inl mvl)), (m2, .inl (cI, 96, .inl mof)), (m3, .inl (cI, 168, .inl mw_155)), (m4, .inl (cF, 288, .inr (.inr (.inl (vf_upd mf_155 (((((24 : Int32) * i) + ((6 : Int32) * k)) + x7_155).toNatClampNeg) (FP.fmul (mf_155 ((((((24 : Int32) * i) + 12) + ((6 : Int32) * k)) + x7_155).toNatClampNeg)) x6_155)))))), (m5, .inl (cZ, 2, .inl mik)), (m6, .inl (cI, 200, .inl mtx)), (m7, .inl (cI, 56, .inl mwd)), (m8, .inl (cI, 3, .inl msz)), (m9, .inl (cI, 3, .inl mso)), (m10, .inl (cI, 24, .inl mpl))] H := hP
          have hD : va_D A [(ma, .inr (6, [.int mst, .int mwy, .int mmk, .int mwt, .ref m1, .ref m2, .ref m3, .ref m4, .int mun, .ref m5, .ref m6, .int mln, .int mfi, .int mbe, .int mrs, .int mrw, .int mcl, .int mdo, .int mnu, .ref m7, .ref m8, .ref m9, .ref m10])), (m1, .inl (cI, 24, .inl mvl)), (m2, .inl (cI, 96, .inl mof)), (m3, .inl (cI, 168, .inl mw_155)), (m4, .inl (cF, 288, .inr (.inr (.inl (vf_upd mf_155 (((((24 : Int32) * i) + ((6 : Int32) * k)) + x7_155).toNatClampNeg) (FP.fmul (mf_155 ((((((24 : Int32) * i) + 12) + ((6 : Int32) * k)) + x7_155).toNatClampNeg)) x6_155)))))), (m5, .inl (cZ, 2, .inl mik)), (m6, .inl (cI, 200, .inl mtx)), (m7, .inl (cI, 56, .inl mwd)), (m8, .inl (cI, 3, .inl msz)), (m9, .inl (cI, 3, .inl mso)), (m10, .inl (cI, 24, .inl mpl))] := hD
          refine lv_iinc (v := x7_155 + 1) (lv' := [(7, .int (x7_155 + 1)), (8, .float (FP.fmul (mf_155 ((((((24 : Int32) * i) + 12) + ((6 : Int32) * k)) + x7_155).toNatClampNeg)) x6_155)), (6, .float x6_155), (5, .float x5_155), (4, .int (mw (((((14 : Int32) * i) + ((5 : Int32) * k)) + 4).toNatClampNeg))), (3, .int (((14 : Int32) * i) + ((5 : Int32) * k))), (0, .ref ma), (1, .int i), (2, .int k)]) hx hb dX6_frames_227 hl (k := 1) rfl rfl (by decide) rfl (fun ls hl => ?_)
          refine lv_goto (tgt := 155) hx hb dX6_frames_230 (by decide) ?_
          exact ih (x7_155 + 1) (vf_upd mf_155 (((((24 : Int32) * i) + ((6 : Int32) * k)) + x7_155).toNatClampNeg) (FP.fmul (mf_155 ((((((24 : Int32) * i) + 12) + ((6 : Int32) * k)) + x7_155).toNatClampNeg)) x6_155)) x6_155 x5_155 mw_155 oo hf H locs ls hP hD hS (lv_sub hl [0, 2, 3, 4, 5, 6, 7, 8] rfl) kk
        · have hf := if_p c21 hf
          refine lv_fload hx hb dX6_frames_216 (lv_at hl 0 rfl) ?_
          refine lv_fload hx hb dX6_frames_218 (lv_at hl 3 rfl) ?_
          obtain ⟨g23, hf⟩ := gd_inv hf
          refine lv_fadd hx hb dX6_frames_220 g23 ?_
          refine lv_goto (tgt := 226) hx hb dX6_frames_221 (by decide) ?_
          obtain ⟨g24, hf⟩ := gd_inv hf
          refine va_fast hx hb hK hP hD hS 4 1 rfl rfl g24 dX6_frames_226 (fun H locs hP hD hS => ?_)
          have hP : va_P D vwCl [(ma, .inr (6, [.int mst, .int mwy, .int mmk, .int mwt, .ref m1, .ref m2, .ref m3, .ref m4, .int mun, .ref m5, .ref m6, .int mln, .int mfi, .int mbe, .int mrs, .int mrw, .int mcl, .int mdo, .int mnu, .ref m7, .ref m8, .ref m9, .ref m10])), (m1, .inl (cI, 24, .inl mvl)), (m2, .inl (cI, 96, .inl mof)), (m3, .inl (cI, 168, .inl mw_155)), (m4, .inl (cF, 288, .inr (.inr (.inl (vf_upd mf_155 (((((24 : Int32) * i) + ((6 : Int32) * k)) + x7_155).toNatClampNeg) (FP.fadd (FP.fmul (mf_155 ((((((24 : Int32) * i) + 12) + ((6 : Int32) * k)) + x7_155).toNatClampNeg)) x6_155) x5_155)))))), (m5, .inl (cZ, 2, .inl mik)), (m6, .inl (cI, 200, .inl mtx)), (m7, .inl (cI, 56, .inl mwd)), (m8, .inl (cI, 3, .inl msz)), (m9, .inl (cI, 3, .inl mso)), (m10, .inl (cI, 24, .inl mpl))] H := hP
          have hD : va_D A [(ma, .inr (6, [.int mst, .int mwy, .int mmk, .int mwt, .ref m1, .ref m2, .ref m3, .ref m4, .int mun, .ref m5, .ref m6, .int mln, .int mfi, .int mbe, .int mrs, .int mrw, .int mcl, .int mdo, .int mnu, .ref m7, .ref m8, .ref m9, .ref m10])), (m1, .inl (cI, 24, .inl mvl)), (m2, .inl (cI, 96, .inl mof)), (m3, .inl (cI, 168, .inl mw_155)), (m4, .inl (cF, 288, .inr (.inr (.inl (vf_upd mf_155 (((((24 : Int32) * i) + ((6 : Int32) * k)) + x7_155).toNatClampNeg) (FP.fadd (FP.fmul (mf_155 ((((((24 : Int32) * i) + 12) + ((6 : Int32) * k)) + x7_155).toNatClampNeg)) x6_155) x5_155)))))), (m5, .inl (cZ, 2, .inl mik)), (m6, .inl (cI, 200, .inl mtx)), (m7, .inl (cI, 56, .inl mwd)), (m8, .inl (cI, 3, .inl msz)), (m9, .inl (cI, 3, .inl mso)), (m10, .inl (cI, 24, .inl mpl))] := hD
          refine lv_iinc (v := x7_155 + 1) (lv' := [(7, .int (x7_155 + 1)), (8, .float (FP.fmul (mf_155 ((((((24 : Int32) * i) + 12) + ((6 : Int32) * k)) + x7_155).toNatClampNeg)) x6_155)), (6, .float x6_155), (5, .float x5_155), (4, .int (mw (((((14 : Int32) * i) + ((5 : Int32) * k)) + 4).toNatClampNeg))), (3, .int (((14 : Int32) * i) + ((5 : Int32) * k))), (0, .ref ma), (1, .int i), (2, .int k)]) hx hb dX6_frames_227 hl (k := 1) rfl rfl (by decide) rfl (fun ls hl => ?_)
          refine lv_goto (tgt := 155) hx hb dX6_frames_230 (by decide) ?_
          exact ih (x7_155 + 1) (vf_upd mf_155 (((((24 : Int32) * i) + ((6 : Int32) * k)) + x7_155).toNatClampNeg) (FP.fadd (FP.fmul (mf_155 ((((((24 : Int32) * i) + 12) + ((6 : Int32) * k)) + x7_155).toNatClampNeg)) x6_155) x5_155)) x6_155 x5_155 mw_155 oo hf H locs ls hP hD hS (lv_sub hl [0, 2, 3, 4, 5, 6, 7, 8] rfl) kk
  have L97 : ∀ (mw_97 : Nat → Int32) (mf_97 : Nat → UInt32), f_X6_frames_J97 i k mw_97 mf_97 = some zz → ∀ (H : Heap) (locs : List Loc) (ls : Array Slot), va_P D vwCl [(ma, .inr (6, [.int mst, .int mwy, .int mmk, .int mwt, .ref m1, .ref m2, .ref m3, .ref m4, .int mun, .ref m5, .ref m6, .int mln, .int mfi, .int mbe, .int mrs, .int mrw, .int mcl, .int mdo, .int mnu, .ref m7, .ref m8, .ref m9, .ref m10])), (m1, .inl (cI, 24, .inl mvl)), (m2, .inl (cI, 96, .inl mof)), (m3, .inl (cI, 168, .inl mw_97)), (m4, .inl (cF, 288, .inr (.inr (.inl mf_97)))), (m5, .inl (cZ, 2, .inl mik)), (m6, .inl (cI, 200, .inl mtx)), (m7, .inl (cI, 56, .inl mwd)), (m8, .inl (cI, 3, .inl msz)), (m9, .inl (cI, 3, .inl mso)), (m10, .inl (cI, 24, .inl mpl))] H → va_D A [(ma, .inr (6, [.int mst, .int mwy, .int mmk, .int mwt, .ref m1, .ref m2, .ref m3, .ref m4, .int mun, .ref m5, .ref m6, .int mln, .int mfi, .int mbe, .int mrs, .int mrw, .int mcl, .int mdo, .int mnu, .ref m7, .ref m8, .ref m9, .ref m10])), (m1, .inl (cI, 24, .inl mvl)), (m2, .inl (cI, 96, .inl mof)), (m3, .inl (cI, 168, .inl mw_97)), (m4, .inl (cF, 288, .inr (.inr (.inl mf_97)))), (m5, .inl (cZ, 2, .inl mik)), (m6, .inl (cI, 200, .inl mtx)), (m7, .inl (cI, 56, .inl mwd)), (m8, .inl (cI, 3, .inl msz)), (m9, .inl (cI, 3, .inl mso)), (m10, .inl (cI, 24, .inl mpl))] → va_S A s.heap H locs → lv_has ls 9 [(4, .int (mw (((((14 : Int32) * i) + ((5 : Int32) * k)) + 4).toNatClampNeg))), (3, .int (((14 : Int32) * i) + ((5 : Int32) * k))), (0, .ref ma), (1, .int i), (2, .int k)] → W p l e { frames := 3, cells := 0, slots := 0, locals := 72 } s m args below meth c H locs 0 0 Q (F0 m 97 ls [.int ((((14 : Int32) * i) + ((5 : Int32) * k)) + 1), .ref m3]) := by
    intro mw_97 mf_97 hf H locs ls hP hD hS hl
    unfold f_X6_frames_J97 at hf
    refine lv_sipush (v := 9999) hx hb dX6_frames_97 (by decide) ?_
    obtain ⟨g8, hf⟩ := gd_inv hf
    refine va_iast hx hb hK hP hD hS 3 2 rfl rfl g8 dX6_frames_100 (fun H locs hP hD hS => ?_)
    have hP : va_P D vwCl [(ma, .inr (6, [.int mst, .int mwy, .int mmk, .int mwt, .ref m1, .ref m2, .ref m3, .ref m4, .int mun, .ref m5, .ref m6, .int mln, .int mfi, .int mbe, .int mrs, .int mrw, .int mcl, .int mdo, .int mnu, .ref m7, .ref m8, .ref m9, .ref m10])), (m1, .inl (cI, 24, .inl mvl)), (m2, .inl (cI, 96, .inl mof)), (m3, .inl (cI, 168, .inl (upd mw_97 (((((14 : Int32) * i) + ((5 : Int32) * k)) + 1).toNatClampNeg) 9999))), (m4, .inl (cF, 288, .inr (.inr (.inl mf_97)))), (m5, .inl (cZ, 2, .inl mik)), (m6, .inl (cI, 200, .inl mtx)), (m7, .inl (cI, 56, .inl mwd)), (m8, .inl (cI, 3, .inl msz)), (m9, .inl (cI, 3, .inl mso)), (m10, .inl (cI, 24, .inl mpl))] H := hP
    have hD : va_D A [(ma, .inr (6, [.int mst, .int mwy, .int mmk, .int mwt, .ref m1, .ref m2, .ref m3, .ref m4, .int mun, .ref m5, .ref m6, .int mln, .int mfi, .int mbe, .int mrs, .int mrw, .int mcl, .int mdo, .int mnu, .ref m7, .ref m8, .ref m9, .ref m10])), (m1, .inl (cI, 24, .inl mvl)), (m2, .inl (cI, 96, .inl mof)), (m3, .inl (cI, 168, .inl (upd mw_97 (((((14 : Int32) * i) + ((5 : Int32) * k)) + 1).toNatClampNeg) 9999))), (m4, .inl (cF, 288, .inr (.inr (.inl mf_97)))), (m5, .inl (cZ, 2, .inl mik)), (m6, .inl (cI, 200, .inl mtx)), (m7, .inl (cI, 56, .inl mwd)), (m8, .inl (cI, 3, .inl msz)), (m9, .inl (cI, 3, .inl mso)), (m10, .inl (cI, 24, .inl mpl))] := hD
    refine lv_aload_n hx hb dX6_frames_101 rfl (lv_at hl 2 rfl) ?_
    refine va_get (D := D) (ci := 6) (v := .ref m3) (C := RX6) (T := TX6) (N := 23) hx hb hts w0 hown hK hP 0 rfl rfl 6 (by decide) w1 (fun _ h9 => h9) rfl dX6_frames_102 ?_
    refine lv_iload_n hx hb dX6_frames_105 rfl (lv_at hl 1 rfl) ?_
    refine lv_iconst (v := 4) hx hb dX6_frames_106 (by decide) ?_
    refine lv_iadd hx hb dX6_frames_107 ?_
    obtain ⟨g9, hf⟩ := gd_inv hf
    refine va_iald hx hb hK hP 3 2 rfl rfl g9 dX6_frames_108 ?_
    refine lv_iconst (v := (-1)) hx hb dX6_frames_109 (by decide) ?_
    refine lv_icmp_eq (tgt := 258) hx hb dX6_frames_110 (by decide) (fun c10 => ?_) (fun c10 => ?_)
    · have hf := if_p c10 hf
      have h1 := Option.some.inj hf
      subst h1
      rw [hQ]
      exact W.vret hx hb hr (fun t ht hW => qEnd hP hS ht) hS.2.2 dX6_frames_258
    · have hf := if_n c10 hf
      refine lv_aload_n hx hb dX6_frames_113 rfl (lv_at hl 2 rfl) ?_
      refine va_get (D := D) (ci := 6) (v := .ref m3) (C := RX6) (T := TX6) (N := 23) hx hb hts w0 hown hK hP 0 rfl rfl 6 (by decide) w1 (fun _ h9 => h9) rfl dX6_frames_114 ?_
      refine lv_iload_n hx hb dX6_frames_117 rfl (lv_at hl 1 rfl) ?_
      refine lv_iconst (v := 3) hx hb dX6_frames_118 (by decide) ?_
      refine lv_iadd hx hb dX6_frames_119 ?_
      refine lv_dup2_11 hx hb dX6_frames_120 rfl rfl ?_
      obtain ⟨g11, hf⟩ := gd_inv hf
      refine va_iald hx hb hK hP 3 2 rfl rfl g11 dX6_frames_121 ?_
      refine lv_iconst (v := 1) hx hb dX6_frames_122 (by decide) ?_
      refine lv_iadd hx hb dX6_frames_123 ?_
      obtain ⟨g12, hf⟩ := gd_inv hf
      refine va_iast hx hb hK hP hD hS 3 2 rfl rfl g12 dX6_frames_124 (fun H locs hP hD hS => ?_)
      have hP : va_P D vwCl [(ma, .inr (6, [.int mst, .int mwy, .int mmk, .int mwt, .ref m1, .ref m2, .ref m3, .ref m4, .int mun, .ref m5, .ref m6, .int mln, .int mfi, .int mbe, .int mrs, .int mrw, .int mcl, .int mdo, .int mnu, .ref m7, .ref m8, .ref m9, .ref m10])), (m1, .inl (cI, 24, .inl mvl)), (m2, .inl (cI, 96, .inl mof)), (m3, .inl (cI, 168, .inl (upd (upd mw_97 (((((14 : Int32) * i) + ((5 : Int32) * k)) + 1).toNatClampNeg) 9999) (((((14 : Int32) * i) + ((5 : Int32) * k)) + 3).toNatClampNeg) (((upd mw_97 (((((14 : Int32) * i) + ((5 : Int32) * k)) + 1).toNatClampNeg) 9999) (((((14 : Int32) * i) + ((5 : Int32) * k)) + 3).toNatClampNeg)) + 1)))), (m4, .inl (cF, 288, .inr (.inr (.inl mf_97)))), (m5, .inl (cZ, 2, .inl mik)), (m6, .inl (cI, 200, .inl mtx)), (m7, .inl (cI, 56, .inl mwd)), (m8, .inl (cI, 3, .inl msz)), (m9, .inl (cI, 3, .inl mso)), (m10, .inl (cI, 24, .inl mpl))] H := hP
      have hD : va_D A [(ma, .inr (6, [.int mst, .int mwy, .int mmk, .int mwt, .ref m1, .ref m2, .ref m3, .ref m4, .int mun, .ref m5, .ref m6, .int mln, .int mfi, .int mbe, .int mrs, .int mrw, .int mcl, .int mdo, .int mnu, .ref m7, .ref m8, .ref m9, .ref m10])), (m1, .inl (cI, 24, .inl mvl)), (m2, .inl (cI, 96, .inl mof)), (m3, .inl (cI, 168, .inl (upd (upd mw_97 (((((14 : Int32) * i) + ((5 : Int32) * k)) + 1).toNatClampNeg) 9999) (((((14 : Int32) * i) + ((5 : Int32) * k)) + 3).toNatClampNeg) (((upd mw_97 (((((14 : Int32) * i) + ((5 : Int32) * k)) + 1).toNatClampNeg) 9999) (((((14 : Int32) * i) + ((5 : Int32) * k)) + 3).toNatClampNeg)) + 1)))), (m4, .inl (cF, 288, .inr (.inr (.inl mf_97)))), (m5, .inl (cZ, 2, .inl mik)), (m6, .inl (cI, 200, .inl mtx)), (m7, .inl (cI, 56, .inl mwd)), (m8, .inl (cI, 3, .inl msz)), (m9, .inl (cI, 3, .inl mso)), (m10, .inl (cI, 24, .inl mpl))] := hD
      refine lv_aload_n hx hb dX6_frames_125 rfl (lv_at hl 2 rfl) ?_
      refine va_get (D := D) (ci := 6) (v := .ref m3) (C := RX6) (T := TX6) (N := 23) hx hb hts w0 hown hK hP 0 rfl rfl 6 (by decide) w1 (fun _ h9 => h9) rfl dX6_frames_126 ?_
      refine lv_iload_n hx hb dX6_frames_129 rfl (lv_at hl 1 rfl) ?_
      refine lv_iconst (v := 3) hx hb dX6_frames_130 (by decide) ?_
      refine lv_iadd hx hb dX6_frames_131 ?_
      obtain ⟨g13, hf⟩ := gd_inv hf
      refine va_iald hx hb hK hP 3 2 rfl rfl g13 dX6_frames_132 ?_
      refine lv_i2f hx hb dX6_frames_133 ?_
      refine lv_aload_n hx hb dX6_frames_134 rfl (lv_at hl 2 rfl) ?_
      refine va_get (D := D) (ci := 6) (v := .ref m3) (C := RX6) (T := TX6) (N := 23) hx hb hts w0 hown hK hP 0 rfl rfl 6 (by decide) w1 (fun _ h9 => h9) rfl dX6_frames_135 ?_
      refine lv_iload_n hx hb dX6_frames_138 rfl (lv_at hl 1 rfl) ?_
      refine lv_iconst (v := 2) hx hb dX6_frames_139 (by decide) ?_
      refine lv_iadd hx hb dX6_frames_140 ?_
      obtain ⟨g14, hf⟩ := gd_inv hf
      refine va_iald hx hb hK hP 3 2 rfl rfl g14 dX6_frames_141 ?_
      refine lv_i2f hx hb dX6_frames_142 ?_
      obtain ⟨g15, hf⟩ := gd_inv hf
      refine lv_fdiv hx hb dX6_frames_143 g15 ?_
      refine lv_fstore (lv' := [(5, .float (FP.fdiv (FP.i2f ((upd (upd mw_97 (((((14 : Int32) * i) + ((5 : Int32) * k)) + 1).toNatClampNeg) 9999) (((((14 : Int32) * i) + ((5 : Int32) * k)) + 3).toNatClampNeg) (((upd mw_97 (((((14 : Int32) * i) + ((5 : Int32) * k)) + 1).toNatClampNeg) 9999) (((((14 : Int32) * i) + ((5 : Int32) * k)) + 3).toNatClampNeg)) + 1)) (((((14 : Int32) * i) + ((5 : Int32) * k)) + 3).toNatClampNeg))) (FP.i2f ((upd (upd mw_97 (((((14 : Int32) * i) + ((5 : Int32) * k)) + 1).toNatClampNeg) 9999) (((((14 : Int32) * i) + ((5 : Int32) * k)) + 3).toNatClampNeg) (((upd mw_97 (((((14 : Int32) * i) + ((5 : Int32) * k)) + 1).toNatClampNeg) 9999) (((((14 : Int32) * i) + ((5 : Int32) * k)) + 3).toNatClampNeg)) + 1)) (((((14 : Int32) * i) + ((5 : Int32) * k)) + 2).toNatClampNeg))))), (4, .int (mw (((((14 : Int32) * i) + ((5 : Int32) * k)) + 4).toNatClampNeg))), (3, .int (((14 : Int32) * i) + ((5 : Int32) * k))), (0, .ref ma), (1, .int i), (2, .int k)]) hx hb dX6_frames_144 hl (by decide) rfl (fun ls hl => ?_)
      refine lv_fconst1 hx hb dX6_frames_146 ?_
      refine lv_fload hx hb dX6_frames_147 (lv_at hl 0 rfl) ?_
      obtain ⟨g16, hf⟩ := gd_inv hf
      refine lv_fsub hx hb dX6_frames_149 g16 ?_
      refine lv_fstore (lv' := [(6, .float (FP.fsub FP.fconst1 (FP.fdiv (FP.i2f ((upd (upd mw_97 (((((14 : Int32) * i) + ((5 : Int32) * k)) + 1).toNatClampNeg) 9999) (((((14 : Int32) * i) + ((5 : Int32) * k)) + 3).toNatClampNeg) (((upd mw_97 (((((14 : Int32) * i) + ((5 : Int32) * k)) + 1).toNatClampNeg) 9999) (((((14 : Int32) * i) + ((5 : Int32) * k)) + 3).toNatClampNeg)) + 1)) (((((14 : Int32) * i) + ((5 : Int32) * k)) + 3).toNatClampNeg))) (FP.i2f ((upd (upd mw_97 (((((14 : Int32) * i) + ((5 : Int32) * k)) + 1).toNatClampNeg) 9999) (((((14 : Int32) * i) + ((5 : Int32) * k)) + 3).toNatClampNeg) (((upd mw_97 (((((14 : Int32) * i) + ((5 : Int32) * k)) + 1).toNatClampNeg) 9999) (((((14 : Int32) * i) + ((5 : Int32) * k)) + 3).toNatClampNeg)) + 1)) (((((14 : Int32) * i) + ((5 : Int32) * k)) + 2).toNatClampNeg)))))), (5, .float (FP.fdiv (FP.i2f ((upd (upd mw_97 (((((14 : Int32) * i) + ((5 : Int32) * k)) + 1).toNatClampNeg) 9999) (((((14 : Int32) * i) + ((5 : Int32) * k)) + 3).toNatClampNeg) (((upd mw_97 (((((14 : Int32) * i) + ((5 : Int32) * k)) + 1).toNatClampNeg) 9999) (((((14 : Int32) * i) + ((5 : Int32) * k)) + 3).toNatClampNeg)) + 1)) (((((14 : Int32) * i) + ((5 : Int32) * k)) + 3).toNatClampNeg))) (FP.i2f ((upd (upd mw_97 (((((14 : Int32) * i) + ((5 : Int32) * k)) + 1).toNatClampNeg) 9999) (((((14 : Int32) * i) + ((5 : Int32) * k)) + 3).toNatClampNeg) (((upd mw_97 (((((14 : Int32) * i) + ((5 : Int32) * k)) + 1).toNatClampNeg) 9999) (((((14 : Int32) * i) + ((5 : Int32) * k)) + 3).toNatClampNeg)) + 1)) (((((14 : Int32) * i) + ((5 : Int32) * k)) + 2).toNatClampNeg))))), (4, .int (mw (((((14 : Int32) * i) + ((5 : Int32) * k)) + 4).toNatClampNeg))), (3, .int (((14 : Int32) * i) + ((5 : Int32) * k))), (0, .ref ma), (1, .int i), (2, .int k)]) hx hb dX6_frames_150 hl (by decide) rfl (fun ls hl => ?_)
      refine lv_iconst (v := 0) hx hb dX6_frames_152 (by decide) ?_
      refine lv_istore (lv' := [(7, .int 0), (6, .float (FP.fsub FP.fconst1 (FP.fdiv (FP.i2f ((upd (upd mw_97 (((((14 : Int32) * i) + ((5 : Int32) * k)) + 1).toNatClampNeg) 9999) (((((14 : Int32) * i) + ((5 : Int32) * k)) + 3).toNatClampNeg) (((upd mw_97 (((((14 : Int32) * i) + ((5 : Int32) * k)) + 1).toNatClampNeg) 9999) (((((14 : Int32) * i) + ((5 : Int32) * k)) + 3).toNatClampNeg)) + 1)) (((((14 : Int32) * i) + ((5 : Int32) * k)) + 3).toNatClampNeg))) (FP.i2f ((upd (upd mw_97 (((((14 : Int32) * i) + ((5 : Int32) * k)) + 1).toNatClampNeg) 9999) (((((14 : Int32) * i) + ((5 : Int32) * k)) + 3).toNatClampNeg) (((upd mw_97 (((((14 : Int32) * i) + ((5 : Int32) * k)) + 1).toNatClampNeg) 9999) (((((14 : Int32) * i) + ((5 : Int32) * k)) + 3).toNatClampNeg)) + 1)) (((((14 : Int32) * i) + ((5 : Int32) * k)) + 2).toNatClampNeg)))))), (5, .float (FP.fdiv (FP.i2f ((upd (upd mw_97 (((((14 : Int32) * i) + ((5 : Int32) * k)) + 1).toNatClampNeg) 9999) (((((14 : Int32) * i) + ((5 : Int32) * k)) + 3).toNatClampNeg) (((upd mw_97 (((((14 : Int32) * i) + ((5 : Int32) * k)) + 1).toNatClampNeg) 9999) (((((14 : Int32) * i) + ((5 : Int32) * k)) + 3).toNatClampNeg)) + 1)) (((((14 : Int32) * i) + ((5 : Int32) * k)) + 3).toNatClampNeg))) (FP.i2f ((upd (upd mw_97 (((((14 : Int32) * i) + ((5 : Int32) * k)) + 1).toNatClampNeg) 9999) (((((14 : Int32) * i) + ((5 : Int32) * k)) + 3).toNatClampNeg) (((upd mw_97 (((((14 : Int32) * i) + ((5 : Int32) * k)) + 1).toNatClampNeg) 9999) (((((14 : Int32) * i) + ((5 : Int32) * k)) + 3).toNatClampNeg)) + 1)) (((((14 : Int32) * i) + ((5 : Int32) * k)) + 2).toNatClampNeg))))), (4, .int (mw (((((14 : Int32) * i) + ((5 : Int32) * k)) + 4).toNatClampNeg))), (3, .int (((14 : Int32) * i) + ((5 : Int32) * k))), (0, .ref ma), (1, .int i), (2, .int k)]) hx hb dX6_frames_153 hl (by decide) rfl (fun ls hl => ?_)
      obtain ⟨⟨q25, q26, q27, q28, q29⟩, hq36, hf⟩ := bd_inv hf
      refine L155 1000 0 mf_97 (FP.fsub FP.fconst1 (FP.fdiv (FP.i2f ((upd (upd mw_97 (((((14 : Int32) * i) + ((5 : Int32) * k)) + 1).toNatClampNeg) 9999) (((((14 : Int32) * i) + ((5 : Int32) * k)) + 3).toNatClampNeg) (((upd mw_97 (((((14 : Int32) * i) + ((5 : Int32) * k)) + 1).toNatClampNeg) 9999) (((((14 : Int32) * i) + ((5 : Int32) * k)) + 3).toNatClampNeg)) + 1)) (((((14 : Int32) * i) + ((5 : Int32) * k)) + 3).toNatClampNeg))) (FP.i2f ((upd (upd mw_97 (((((14 : Int32) * i) + ((5 : Int32) * k)) + 1).toNatClampNeg) 9999) (((((14 : Int32) * i) + ((5 : Int32) * k)) + 3).toNatClampNeg) (((upd mw_97 (((((14 : Int32) * i) + ((5 : Int32) * k)) + 1).toNatClampNeg) 9999) (((((14 : Int32) * i) + ((5 : Int32) * k)) + 3).toNatClampNeg)) + 1)) (((((14 : Int32) * i) + ((5 : Int32) * k)) + 2).toNatClampNeg))))) (FP.fdiv (FP.i2f ((upd (upd mw_97 (((((14 : Int32) * i) + ((5 : Int32) * k)) + 1).toNatClampNeg) 9999) (((((14 : Int32) * i) + ((5 : Int32) * k)) + 3).toNatClampNeg) (((upd mw_97 (((((14 : Int32) * i) + ((5 : Int32) * k)) + 1).toNatClampNeg) 9999) (((((14 : Int32) * i) + ((5 : Int32) * k)) + 3).toNatClampNeg)) + 1)) (((((14 : Int32) * i) + ((5 : Int32) * k)) + 3).toNatClampNeg))) (FP.i2f ((upd (upd mw_97 (((((14 : Int32) * i) + ((5 : Int32) * k)) + 1).toNatClampNeg) 9999) (((((14 : Int32) * i) + ((5 : Int32) * k)) + 3).toNatClampNeg) (((upd mw_97 (((((14 : Int32) * i) + ((5 : Int32) * k)) + 1).toNatClampNeg) 9999) (((((14 : Int32) * i) + ((5 : Int32) * k)) + 3).toNatClampNeg)) + 1)) (((((14 : Int32) * i) + ((5 : Int32) * k)) + 2).toNatClampNeg)))) (upd (upd mw_97 (((((14 : Int32) * i) + ((5 : Int32) * k)) + 1).toNatClampNeg) 9999) (((((14 : Int32) * i) + ((5 : Int32) * k)) + 3).toNatClampNeg) (((upd mw_97 (((((14 : Int32) * i) + ((5 : Int32) * k)) + 1).toNatClampNeg) 9999) (((((14 : Int32) * i) + ((5 : Int32) * k)) + 3).toNatClampNeg)) + 1)) (q25, q26, q27, q28, q29) hq36 H locs ls hP hD hS (lv_sub hl [0, 1, 2, 3, 4, 5, 6, 7] rfl) (fun H locs ls hP hD hS hl => ?_)
      have hP : va_P D vwCl [(ma, .inr (6, [.int mst, .int mwy, .int mmk, .int mwt, .ref m1, .ref m2, .ref m3, .ref m4, .int mun, .ref m5, .ref m6, .int mln, .int mfi, .int mbe, .int mrs, .int mrw, .int mcl, .int mdo, .int mnu, .ref m7, .ref m8, .ref m9, .ref m10])), (m1, .inl (cI, 24, .inl mvl)), (m2, .inl (cI, 96, .inl mof)), (m3, .inl (cI, 168, .inl q28)), (m4, .inl (cF, 288, .inr (.inr (.inl q29)))), (m5, .inl (cZ, 2, .inl mik)), (m6, .inl (cI, 200, .inl mtx)), (m7, .inl (cI, 56, .inl mwd)), (m8, .inl (cI, 3, .inl msz)), (m9, .inl (cI, 3, .inl mso)), (m10, .inl (cI, 24, .inl mpl))] H := hP
      have hD : va_D A [(ma, .inr (6, [.int mst, .int mwy, .int mmk, .int mwt, .ref m1, .ref m2, .ref m3, .ref m4, .int mun, .ref m5, .ref m6, .int mln, .int mfi, .int mbe, .int mrs, .int mrw, .int mcl, .int mdo, .int mnu, .ref m7, .ref m8, .ref m9, .ref m10])), (m1, .inl (cI, 24, .inl mvl)), (m2, .inl (cI, 96, .inl mof)), (m3, .inl (cI, 168, .inl q28)), (m4, .inl (cF, 288, .inr (.inr (.inl q29)))), (m5, .inl (cZ, 2, .inl mik)), (m6, .inl (cI, 200, .inl mtx)), (m7, .inl (cI, 56, .inl mwd)), (m8, .inl (cI, 3, .inl msz)), (m9, .inl (cI, 3, .inl mso)), (m10, .inl (cI, 24, .inl mpl))] := hD
      have hl : lv_has ls 9 [(7, .int q25), (6, .float q26), (5, .float q27), (4, .int (mw (((((14 : Int32) * i) + ((5 : Int32) * k)) + 4).toNatClampNeg))), (3, .int (((14 : Int32) * i) + ((5 : Int32) * k))), (0, .ref ma), (1, .int i), (2, .int k)] := hl
      refine lv_aload_n hx hb dX6_frames_233 rfl (lv_at hl 5 rfl) ?_
      refine va_get (D := D) (ci := 6) (v := .ref m3) (C := RX6) (T := TX6) (N := 23) hx hb hts w0 hown hK hP 0 rfl rfl 6 (by decide) w1 (fun _ h9 => h9) rfl dX6_frames_234 ?_
      refine lv_iload_n hx hb dX6_frames_237 rfl (lv_at hl 4 rfl) ?_
      refine lv_iconst (v := 3) hx hb dX6_frames_238 (by decide) ?_
      refine lv_iadd hx hb dX6_frames_239 ?_
      obtain ⟨g30, hf⟩ := gd_inv hf
      refine va_iald hx hb hK hP 3 2 rfl rfl g30 dX6_frames_240 ?_
      refine lv_aload_n hx hb dX6_frames_241 rfl (lv_at hl 5 rfl) ?_
      refine va_get (D := D) (ci := 6) (v := .ref m3) (C := RX6) (T := TX6) (N := 23) hx hb hts w0 hown hK hP 0 rfl rfl 6 (by decide) w1 (fun _ h9 => h9) rfl dX6_frames_242 ?_
      refine lv_iload_n hx hb dX6_frames_245 rfl (lv_at hl 4 rfl) ?_
      refine lv_iconst (v := 2) hx hb dX6_frames_246 (by decide) ?_
      refine lv_iadd hx hb dX6_frames_247 ?_
      obtain ⟨g31, hf⟩ := gd_inv hf
      refine va_iald hx hb hK hP 3 2 rfl rfl g31 dX6_frames_248 ?_
      refine lv_icmp_ne (tgt := 258) hx hb dX6_frames_249 (by decide) (fun c32 => ?_) (fun c32 => ?_)
      · have hf := if_n c32 hf
        have h1 := Option.some.inj hf
        subst h1
        rw [hQ]
        exact W.vret hx hb hr (fun t ht hW => qEnd hP hS ht) hS.2.2 dX6_frames_258
      · have hf := if_p c32 hf
        refine lv_aload_n hx hb dX6_frames_252 rfl (lv_at hl 5 rfl) ?_
        refine lv_iload_n hx hb dX6_frames_253 rfl (lv_at hl 6 rfl) ?_
        refine lv_iload_n hx hb dX6_frames_254 rfl (lv_at hl 7 rfl) ?_
        obtain ⟨⟨o33, o34⟩, hc35, hf⟩ := bd_inv hf
        refine xcV (As := [.int i, .int k]) (rest := []) (ws' := [(ma, .inr (6, [.int mst, .int mwy, .int mmk, .int mwt, .ref m1, .ref m2, .ref m3, .ref m4, .int mun, .ref m5, .ref m6, .int mln, .int mfi, .int mbe, .int mrs, .int mrw, .int mcl, .int mdo, .int mnu, .ref m7, .ref m8, .ref m9, .ref m10])), (m1, .inl (cI, 24, .inl mvl)), (m2, .inl (cI, 96, .inl mof)), (m3, .inl (cI, 168, .inl o33)), (m4, .inl (cF, 288, .inr (.inr (.inl o34)))), (m5, .inl (cZ, 2, .inl mik)), (m6, .inl (cI, 200, .inl mtx)), (m7, .inl (cI, 56, .inl mwd)), (m8, .inl (cI, 3, .inl msz)), (m9, .inl (cI, 3, .inl mso)), (m10, .inl (cI, 24, .inl mpl))]) ⟨hx, hb, hml, hown, hts⟩ (c_X6_steadies l D B adK adV cC cF cI cZ cM cS ma mst mwy mmk mwt m1 m2 m3 m4 mun m5 m6 mln mfi mbe mrs mrw mcl mdo mnu m7 m8 m9 m10 mvl mof q28 q29 mik mtx mwd msz mso mpl i k  (o33, o34) hc35) (cwV 2 hts gX6_frames_X6_steadies rfl rfl rfl (by decide +kernel) ⟨Nat.le_of_ble_eq_true rfl, Nat.le_of_ble_eq_true rfl⟩) (va_recv hK hP (ci := 6) (q0 := 0) rfl rfl) hK hP hD hS hB hE [0, 1, 2, 3, 4, 5, 6, 7, 8, 9, 10] rfl rfl rfl rfl rfl hl.1 rfl (Nat.le_of_ble_eq_true rfl) dX6_frames_255 ⟨Nat.le_of_ble_eq_true rfl, Nat.le_of_ble_eq_true rfl⟩ (fun H locs hP hD hS => ?_)
        refine W.eq (g2 := F0 m 258 ls []) rfl ?_
        have h1 := Option.some.inj hf
        subst h1
        rw [hQ]
        exact W.vret hx hb hr (fun t ht hW => qEnd hP hS ht) hS.2.2 dX6_frames_258
  have L63 : ∀ (mw_63 : Nat → Int32) (mf_63 : Nat → UInt32), f_X6_frames_J63 i k mw_63 mf_63 = some zz → ∀ (H : Heap) (locs : List Loc) (ls : Array Slot), va_P D vwCl [(ma, .inr (6, [.int mst, .int mwy, .int mmk, .int mwt, .ref m1, .ref m2, .ref m3, .ref m4, .int mun, .ref m5, .ref m6, .int mln, .int mfi, .int mbe, .int mrs, .int mrw, .int mcl, .int mdo, .int mnu, .ref m7, .ref m8, .ref m9, .ref m10])), (m1, .inl (cI, 24, .inl mvl)), (m2, .inl (cI, 96, .inl mof)), (m3, .inl (cI, 168, .inl mw_63)), (m4, .inl (cF, 288, .inr (.inr (.inl mf_63)))), (m5, .inl (cZ, 2, .inl mik)), (m6, .inl (cI, 200, .inl mtx)), (m7, .inl (cI, 56, .inl mwd)), (m8, .inl (cI, 3, .inl msz)), (m9, .inl (cI, 3, .inl mso)), (m10, .inl (cI, 24, .inl mpl))] H → va_D A [(ma, .inr (6, [.int mst, .int mwy, .int mmk, .int mwt, .ref m1, .ref m2, .ref m3, .ref m4, .int mun, .ref m5, .ref m6, .int mln, .int mfi, .int mbe, .int mrs, .int mrw, .int mcl, .int mdo, .int mnu, .ref m7, .ref m8, .ref m9, .ref m10])), (m1, .inl (cI, 24, .inl mvl)), (m2, .inl (cI, 96, .inl mof)), (m3, .inl (cI, 168, .inl mw_63)), (m4, .inl (cF, 288, .inr (.inr (.inl mf_63)))), (m5, .inl (cZ, 2, .inl mik)), (m6, .inl (cI, 200, .inl mtx)), (m7, .inl (cI, 56, .inl mwd)), (m8, .inl (cI, 3, .inl msz)), (m9, .inl (cI, 3, .inl mso)), (m10, .inl (cI, 24, .inl mpl))] → va_S A s.heap H locs → lv_has ls 9 [(4, .int (mw (((((14 : Int32) * i) + ((5 : Int32) * k)) + 4).toNatClampNeg))), (3, .int (((14 : Int32) * i) + ((5 : Int32) * k))), (0, .ref ma), (1, .int i), (2, .int k)] → W p l e { frames := 3, cells := 0, slots := 0, locals := 72 } s m args below meth c H locs 0 0 Q (F0 m 63 ls []) := by
    intro mw_63 mf_63 hf H locs ls hP hD hS hl
    unfold f_X6_frames_J63 at hf
    refine lv_aload_n hx hb dX6_frames_63 rfl (lv_at hl 2 rfl) ?_
    refine va_get (D := D) (ci := 6) (v := .ref m3) (C := RX6) (T := TX6) (N := 23) hx hb hts w0 hown hK hP 0 rfl rfl 6 (by decide) w1 (fun _ h9 => h9) rfl dX6_frames_64 ?_
    refine lv_iload_n hx hb dX6_frames_67 rfl (lv_at hl 1 rfl) ?_
    refine lv_iconst (v := 1) hx hb dX6_frames_68 (by decide) ?_
    refine lv_iadd hx hb dX6_frames_69 ?_
    refine lv_aload_n hx hb dX6_frames_70 rfl (lv_at hl 2 rfl) ?_
    refine va_get (D := D) (ci := 6) (v := .ref m3) (C := RX6) (T := TX6) (N := 23) hx hb hts w0 hown hK hP 0 rfl rfl 6 (by decide) w1 (fun _ h9 => h9) rfl dX6_frames_71 ?_
    refine lv_iload_n hx hb dX6_frames_74 rfl (lv_at hl 1 rfl) ?_
    refine lv_iconst (v := 1) hx hb dX6_frames_75 (by decide) ?_
    refine lv_iadd hx hb dX6_frames_76 ?_
    obtain ⟨g6, hf⟩ := gd_inv hf
    refine va_iald hx hb hK hP 3 2 rfl rfl g6 dX6_frames_77 ?_
    refine lv_sipush (v := 9999) hx hb dX6_frames_78 (by decide) ?_
    refine lv_icmp_ge (tgt := 97) hx hb dX6_frames_81 (by decide) (fun c7 => ?_) (fun c7 => ?_)
    · have hf := if_p c7 hf
      exact L97 mw_63 mf_63 hf H locs ls hP hD hS (lv_sub hl [0, 1, 2, 3, 4] rfl)
    · have hf := if_n c7 hf
      refine lv_aload_n hx hb dX6_frames_84 rfl (lv_at hl 2 rfl) ?_
      refine va_get (D := D) (ci := 6) (v := .ref m3) (C := RX6) (T := TX6) (N := 23) hx hb hts w0 hown hK hP 0 rfl rfl 6 (by decide) w1 (fun _ h9 => h9) rfl dX6_frames_85 ?_
      refine lv_iload_n hx hb dX6_frames_88 rfl (lv_at hl 1 rfl) ?_
      refine lv_iconst (v := 1) hx hb dX6_frames_89 (by decide) ?_
      refine lv_iadd hx hb dX6_frames_90 ?_
      obtain ⟨g37, hf⟩ := gd_inv hf
      refine va_iald hx hb hK hP 3 2 rfl rfl g37 dX6_frames_91 ?_
      refine lv_iconst (v := 1) hx hb dX6_frames_92 (by decide) ?_
      refine lv_iadd hx hb dX6_frames_93 ?_
      refine lv_goto (tgt := 100) hx hb dX6_frames_94 (by decide) ?_
      obtain ⟨g38, hf⟩ := gd_inv hf
      refine va_iast hx hb hK hP hD hS 3 2 rfl rfl g38 dX6_frames_100 (fun H locs hP hD hS => ?_)
      have hP : va_P D vwCl [(ma, .inr (6, [.int mst, .int mwy, .int mmk, .int mwt, .ref m1, .ref m2, .ref m3, .ref m4, .int mun, .ref m5, .ref m6, .int mln, .int mfi, .int mbe, .int mrs, .int mrw, .int mcl, .int mdo, .int mnu, .ref m7, .ref m8, .ref m9, .ref m10])), (m1, .inl (cI, 24, .inl mvl)), (m2, .inl (cI, 96, .inl mof)), (m3, .inl (cI, 168, .inl (upd mw_63 (((((14 : Int32) * i) + ((5 : Int32) * k)) + 1).toNatClampNeg) ((mw_63 (((((14 : Int32) * i) + ((5 : Int32) * k)) + 1).toNatClampNeg)) + 1)))), (m4, .inl (cF, 288, .inr (.inr (.inl mf_63)))), (m5, .inl (cZ, 2, .inl mik)), (m6, .inl (cI, 200, .inl mtx)), (m7, .inl (cI, 56, .inl mwd)), (m8, .inl (cI, 3, .inl msz)), (m9, .inl (cI, 3, .inl mso)), (m10, .inl (cI, 24, .inl mpl))] H := hP
      have hD : va_D A [(ma, .inr (6, [.int mst, .int mwy, .int mmk, .int mwt, .ref m1, .ref m2, .ref m3, .ref m4, .int mun, .ref m5, .ref m6, .int mln, .int mfi, .int mbe, .int mrs, .int mrw, .int mcl, .int mdo, .int mnu, .ref m7, .ref m8, .ref m9, .ref m10])), (m1, .inl (cI, 24, .inl mvl)), (m2, .inl (cI, 96, .inl mof)), (m3, .inl (cI, 168, .inl (upd mw_63 (((((14 : Int32) * i) + ((5 : Int32) * k)) + 1).toNatClampNeg) ((mw_63 (((((14 : Int32) * i) + ((5 : Int32) * k)) + 1).toNatClampNeg)) + 1)))), (m4, .inl (cF, 288, .inr (.inr (.inl mf_63)))), (m5, .inl (cZ, 2, .inl mik)), (m6, .inl (cI, 200, .inl mtx)), (m7, .inl (cI, 56, .inl mwd)), (m8, .inl (cI, 3, .inl msz)), (m9, .inl (cI, 3, .inl mso)), (m10, .inl (cI, 24, .inl mpl))] := hD
      refine lv_aload_n hx hb dX6_frames_101 rfl (lv_at hl 2 rfl) ?_
      refine va_get (D := D) (ci := 6) (v := .ref m3) (C := RX6) (T := TX6) (N := 23) hx hb hts w0 hown hK hP 0 rfl rfl 6 (by decide) w1 (fun _ h9 => h9) rfl dX6_frames_102 ?_
      refine lv_iload_n hx hb dX6_frames_105 rfl (lv_at hl 1 rfl) ?_
      refine lv_iconst (v := 4) hx hb dX6_frames_106 (by decide) ?_
      refine lv_iadd hx hb dX6_frames_107 ?_
      obtain ⟨g39, hf⟩ := gd_inv hf
      refine va_iald hx hb hK hP 3 2 rfl rfl g39 dX6_frames_108 ?_
      refine lv_iconst (v := (-1)) hx hb dX6_frames_109 (by decide) ?_
      refine lv_icmp_eq (tgt := 258) hx hb dX6_frames_110 (by decide) (fun c40 => ?_) (fun c40 => ?_)
      · have hf := if_p c40 hf
        have h1 := Option.some.inj hf
        subst h1
        rw [hQ]
        exact W.vret hx hb hr (fun t ht hW => qEnd hP hS ht) hS.2.2 dX6_frames_258
      · have hf := if_n c40 hf
        refine lv_aload_n hx hb dX6_frames_113 rfl (lv_at hl 2 rfl) ?_
        refine va_get (D := D) (ci := 6) (v := .ref m3) (C := RX6) (T := TX6) (N := 23) hx hb hts w0 hown hK hP 0 rfl rfl 6 (by decide) w1 (fun _ h9 => h9) rfl dX6_frames_114 ?_
        refine lv_iload_n hx hb dX6_frames_117 rfl (lv_at hl 1 rfl) ?_
        refine lv_iconst (v := 3) hx hb dX6_frames_118 (by decide) ?_
        refine lv_iadd hx hb dX6_frames_119 ?_
        refine lv_dup2_11 hx hb dX6_frames_120 rfl rfl ?_
        obtain ⟨g41, hf⟩ := gd_inv hf
        refine va_iald hx hb hK hP 3 2 rfl rfl g41 dX6_frames_121 ?_
        refine lv_iconst (v := 1) hx hb dX6_frames_122 (by decide) ?_
        refine lv_iadd hx hb dX6_frames_123 ?_
        obtain ⟨g42, hf⟩ := gd_inv hf
        refine va_iast hx hb hK hP hD hS 3 2 rfl rfl g42 dX6_frames_124 (fun H locs hP hD hS => ?_)
        have hP : va_P D vwCl [(ma, .inr (6, [.int mst, .int mwy, .int mmk, .int mwt, .ref m1, .ref m2, .ref m3, .ref m4, .int mun, .ref m5, .ref m6, .int mln, .int mfi, .int mbe, .int mrs, .int mrw, .int mcl, .int mdo, .int mnu, .ref m7, .ref m8, .ref m9, .ref m10])), (m1, .inl (cI, 24, .inl mvl)), (m2, .inl (cI, 96, .inl mof)), (m3, .inl (cI, 168, .inl (upd (upd mw_63 (((((14 : Int32) * i) + ((5 : Int32) * k)) + 1).toNatClampNeg) ((mw_63 (((((14 : Int32) * i) + ((5 : Int32) * k)) + 1).toNatClampNeg)) + 1)) (((((14 : Int32) * i) + ((5 : Int32) * k)) + 3).toNatClampNeg) (((upd mw_63 (((((14 : Int32) * i) + ((5 : Int32) * k)) + 1).toNatClampNeg) ((mw_63 (((((14 : Int32) * i) + ((5 : Int32) * k)) + 1).toNatClampNeg)) + 1)) (((((14 : Int32) * i) + ((5 : Int32) * k)) + 3).toNatClampNeg)) + 1)))), (m4, .inl (cF, 288, .inr (.inr (.inl mf_63)))), (m5, .inl (cZ, 2, .inl mik)), (m6, .inl (cI, 200, .inl mtx)), (m7, .inl (cI, 56, .inl mwd)), (m8, .inl (cI, 3, .inl msz)), (m9, .inl (cI, 3, .inl mso)), (m10, .inl (cI, 24, .inl mpl))] H := hP
        have hD : va_D A [(ma, .inr (6, [.int mst, .int mwy, .int mmk, .int mwt, .ref m1, .ref m2, .ref m3, .ref m4, .int mun, .ref m5, .ref m6, .int mln, .int mfi, .int mbe, .int mrs, .int mrw, .int mcl, .int mdo, .int mnu, .ref m7, .ref m8, .ref m9, .ref m10])), (m1, .inl (cI, 24, .inl mvl)), (m2, .inl (cI, 96, .inl mof)), (m3, .inl (cI, 168, .inl (upd (upd mw_63 (((((14 : Int32) * i) + ((5 : Int32) * k)) + 1).toNatClampNeg) ((mw_63 (((((14 : Int32) * i) + ((5 : Int32) * k)) + 1).toNatClampNeg)) + 1)) (((((14 : Int32) * i) + ((5 : Int32) * k)) + 3).toNatClampNeg) (((upd mw_63 (((((14 : Int32) * i) + ((5 : Int32) * k)) + 1).toNatClampNeg) ((mw_63 (((((14 : Int32) * i) + ((5 : Int32) * k)) + 1).toNatClampNeg)) + 1)) (((((14 : Int32) * i) + ((5 : Int32) * k)) + 3).toNatClampNeg)) + 1)))), (m4, .inl (cF, 288, .inr (.inr (.inl mf_63)))), (m5, .inl (cZ, 2, .inl mik)), (m6, .inl (cI, 200, .inl mtx)), (m7, .inl (cI, 56, .inl mwd)), (m8, .inl (cI, 3, .inl msz)), (m9, .inl (cI, 3, .inl mso)), (m10, .inl (cI, 24, .inl mpl))] := hD
        refine lv_aload_n hx hb dX6_frames_125 rfl (lv_at hl 2 rfl) ?_
        refine va_get (D := D) (ci := 6) (v := .ref m3) (C := RX6) (T := TX6) (N := 23) hx hb hts w0 hown hK hP 0 rfl rfl 6 (by decide) w1 (fun _ h9 => h9) rfl dX6_frames_126 ?_
        refine lv_iload_n hx hb dX6_frames_129 rfl (lv_at hl 1 rfl) ?_
        refine lv_iconst (v := 3) hx hb dX6_frames_130 (by decide) ?_
        refine lv_iadd hx hb dX6_frames_131 ?_
        obtain ⟨g43, hf⟩ := gd_inv hf
        refine va_iald hx hb hK hP 3 2 rfl rfl g43 dX6_frames_132 ?_
        refine lv_i2f hx hb dX6_frames_133 ?_
        refine lv_aload_n hx hb dX6_frames_134 rfl (lv_at hl 2 rfl) ?_
        refine va_get (D := D) (ci := 6) (v := .ref m3) (C := RX6) (T := TX6) (N := 23) hx hb hts w0 hown hK hP 0 rfl rfl 6 (by decide) w1 (fun _ h9 => h9) rfl dX6_frames_135 ?_
        refine lv_iload_n hx hb dX6_frames_138 rfl (lv_at hl 1 rfl) ?_
        refine lv_iconst (v := 2) hx hb dX6_frames_139 (by decide) ?_
        refine lv_iadd hx hb dX6_frames_140 ?_
        obtain ⟨g44, hf⟩ := gd_inv hf
        refine va_iald hx hb hK hP 3 2 rfl rfl g44 dX6_frames_141 ?_
        refine lv_i2f hx hb dX6_frames_142 ?_
        obtain ⟨g45, hf⟩ := gd_inv hf
        refine lv_fdiv hx hb dX6_frames_143 g45 ?_
        refine lv_fstore (lv' := [(5, .float (FP.fdiv (FP.i2f ((upd (upd mw_63 (((((14 : Int32) * i) + ((5 : Int32) * k)) + 1).toNatClampNeg) ((mw_63 (((((14 : Int32) * i) + ((5 : Int32) * k)) + 1).toNatClampNeg)) + 1)) (((((14 : Int32) * i) + ((5 : Int32) * k)) + 3).toNatClampNeg) (((upd mw_63 (((((14 : Int32) * i) + ((5 : Int32) * k)) + 1).toNatClampNeg) ((mw_63 (((((14 : Int32) * i) + ((5 : Int32) * k)) + 1).toNatClampNeg)) + 1)) (((((14 : Int32) * i) + ((5 : Int32) * k)) + 3).toNatClampNeg)) + 1)) (((((14 : Int32) * i) + ((5 : Int32) * k)) + 3).toNatClampNeg))) (FP.i2f ((upd (upd mw_63 (((((14 : Int32) * i) + ((5 : Int32) * k)) + 1).toNatClampNeg) ((mw_63 (((((14 : Int32) * i) + ((5 : Int32) * k)) + 1).toNatClampNeg)) + 1)) (((((14 : Int32) * i) + ((5 : Int32) * k)) + 3).toNatClampNeg) (((upd mw_63 (((((14 : Int32) * i) + ((5 : Int32) * k)) + 1).toNatClampNeg) ((mw_63 (((((14 : Int32) * i) + ((5 : Int32) * k)) + 1).toNatClampNeg)) + 1)) (((((14 : Int32) * i) + ((5 : Int32) * k)) + 3).toNatClampNeg)) + 1)) (((((14 : Int32) * i) + ((5 : Int32) * k)) + 2).toNatClampNeg))))), (4, .int (mw (((((14 : Int32) * i) + ((5 : Int32) * k)) + 4).toNatClampNeg))), (3, .int (((14 : Int32) * i) + ((5 : Int32) * k))), (0, .ref ma), (1, .int i), (2, .int k)]) hx hb dX6_frames_144 hl (by decide) rfl (fun ls hl => ?_)
        refine lv_fconst1 hx hb dX6_frames_146 ?_
        refine lv_fload hx hb dX6_frames_147 (lv_at hl 0 rfl) ?_
        obtain ⟨g46, hf⟩ := gd_inv hf
        refine lv_fsub hx hb dX6_frames_149 g46 ?_
        refine lv_fstore (lv' := [(6, .float (FP.fsub FP.fconst1 (FP.fdiv (FP.i2f ((upd (upd mw_63 (((((14 : Int32) * i) + ((5 : Int32) * k)) + 1).toNatClampNeg) ((mw_63 (((((14 : Int32) * i) + ((5 : Int32) * k)) + 1).toNatClampNeg)) + 1)) (((((14 : Int32) * i) + ((5 : Int32) * k)) + 3).toNatClampNeg) (((upd mw_63 (((((14 : Int32) * i) + ((5 : Int32) * k)) + 1).toNatClampNeg) ((mw_63 (((((14 : Int32) * i) + ((5 : Int32) * k)) + 1).toNatClampNeg)) + 1)) (((((14 : Int32) * i) + ((5 : Int32) * k)) + 3).toNatClampNeg)) + 1)) (((((14 : Int32) * i) + ((5 : Int32) * k)) + 3).toNatClampNeg))) (FP.i2f ((upd (upd mw_63 (((((14 : Int32) * i) + ((5 : Int32) * k)) + 1).toNatClampNeg) ((mw_63 (((((14 : Int32) * i) + ((5 : Int32) * k)) + 1).toNatClampNeg)) + 1)) (((((14 : Int32) * i) + ((5 : Int32) * k)) + 3).toNatClampNeg) (((upd mw_63 (((((14 : Int32) * i) + ((5 : Int32) * k)) + 1).toNatClampNeg) ((mw_63 (((((14 : Int32) * i) + ((5 : Int32) * k)) + 1).toNatClampNeg)) + 1)) (((((14 : Int32) * i) + ((5 : Int32) * k)) + 3).toNatClampNeg)) + 1)) (((((14 : Int32) * i) + ((5 : Int32) * k)) + 2).toNatClampNeg)))))), (5, .float (FP.fdiv (FP.i2f ((upd (upd mw_63 (((((14 : Int32) * i) + ((5 : Int32) * k)) + 1).toNatClampNeg) ((mw_63 (((((14 : Int32) * i) + ((5 : Int32) * k)) + 1).toNatClampNeg)) + 1)) (((((14 : Int32) * i) + ((5 : Int32) * k)) + 3).toNatClampNeg) (((upd mw_63 (((((14 : Int32) * i) + ((5 : Int32) * k)) + 1).toNatClampNeg) ((mw_63 (((((14 : Int32) * i) + ((5 : Int32) * k)) + 1).toNatClampNeg)) + 1)) (((((14 : Int32) * i) + ((5 : Int32) * k)) + 3).toNatClampNeg)) + 1)) (((((14 : Int32) * i) + ((5 : Int32) * k)) + 3).toNatClampNeg))) (FP.i2f ((upd (upd mw_63 (((((14 : Int32) * i) + ((5 : Int32) * k)) + 1).toNatClampNeg) ((mw_63 (((((14 : Int32) * i) + ((5 : Int32) * k)) + 1).toNatClampNeg)) + 1)) (((((14 : Int32) * i) + ((5 : Int32) * k)) + 3).toNatClampNeg) (((upd mw_63 (((((14 : Int32) * i) + ((5 : Int32) * k)) + 1).toNatClampNeg) ((mw_63 (((((14 : Int32) * i) + ((5 : Int32) * k)) + 1).toNatClampNeg)) + 1)) (((((14 : Int32) * i) + ((5 : Int32) * k)) + 3).toNatClampNeg)) + 1)) (((((14 : Int32) * i) + ((5 : Int32) * k)) + 2).toNatClampNeg))))), (4, .int (mw (((((14 : Int32) * i) + ((5 : Int32) * k)) + 4).toNatClampNeg))), (3, .int (((14 : Int32) * i) + ((5 : Int32) * k))), (0, .ref ma), (1, .int i), (2, .int k)]) hx hb dX6_frames_150 hl (by decide) rfl (fun ls hl => ?_)
        refine lv_iconst (v := 0) hx hb dX6_frames_152 (by decide) ?_
        refine lv_istore (lv' := [(7, .int 0), (6, .float (FP.fsub FP.fconst1 (FP.fdiv (FP.i2f ((upd (upd mw_63 (((((14 : Int32) * i) + ((5 : Int32) * k)) + 1).toNatClampNeg) ((mw_63 (((((14 : Int32) * i) + ((5 : Int32) * k)) + 1).toNatClampNeg)) + 1)) (((((14 : Int32) * i) + ((5 : Int32) * k)) + 3).toNatClampNeg) (((upd mw_63 (((((14 : Int32) * i) + ((5 : Int32) * k)) + 1).toNatClampNeg) ((mw_63 (((((14 : Int32) * i) + ((5 : Int32) * k)) + 1).toNatClampNeg)) + 1)) (((((14 : Int32) * i) + ((5 : Int32) * k)) + 3).toNatClampNeg)) + 1)) (((((14 : Int32) * i) + ((5 : Int32) * k)) + 3).toNatClampNeg))) (FP.i2f ((upd (upd mw_63 (((((14 : Int32) * i) + ((5 : Int32) * k)) + 1).toNatClampNeg) ((mw_63 (((((14 : Int32) * i) + ((5 : Int32) * k)) + 1).toNatClampNeg)) + 1)) (((((14 : Int32) * i) + ((5 : Int32) * k)) + 3).toNatClampNeg) (((upd mw_63 (((((14 : Int32) * i) + ((5 : Int32) * k)) + 1).toNatClampNeg) ((mw_63 (((((14 : Int32) * i) + ((5 : Int32) * k)) + 1).toNatClampNeg)) + 1)) (((((14 : Int32) * i) + ((5 : Int32) * k)) + 3).toNatClampNeg)) + 1)) (((((14 : Int32) * i) + ((5 : Int32) * k)) + 2).toNatClampNeg)))))), (5, .float (FP.fdiv (FP.i2f ((upd (upd mw_63 (((((14 : Int32) * i) + ((5 : Int32) * k)) + 1).toNatClampNeg) ((mw_63 (((((14 : Int32) * i) + ((5 : Int32) * k)) + 1).toNatClampNeg)) + 1)) (((((14 : Int32) * i) + ((5 : Int32) * k)) + 3).toNatClampNeg) (((upd mw_63 (((((14 : Int32) * i) + ((5 : Int32) * k)) + 1).toNatClampNeg) ((mw_63 (((((14 : Int32) * i) + ((5 : Int32) * k)) + 1).toNatClampNeg)) + 1)) (((((14 : Int32) * i) + ((5 : Int32) * k)) + 3).toNatClampNeg)) + 1)) (((((14 : Int32) * i) + ((5 : Int32) * k)) + 3).toNatClampNeg))) (FP.i2f ((upd (upd mw_63 (((((14 : Int32) * i) + ((5 : Int32) * k)) + 1).toNatClampNeg) ((mw_63 (((((14 : Int32) * i) + ((5 : Int32) * k)) + 1).toNatClampNeg)) + 1)) (((((14 : Int32) * i) + ((5 : Int32) * k)) + 3).toNatClampNeg) (((upd mw_63 (((((14 : Int32) * i) + ((5 : Int32) * k)) + 1).toNatClampNeg) ((mw_63 (((((14 : Int32) * i) + ((5 : Int32) * k)) + 1).toNatClampNeg)) + 1)) (((((14 : Int32) * i) + ((5 : Int32) * k)) + 3).toNatClampNeg)) + 1)) (((((14 : Int32) * i) + ((5 : Int32) * k)) + 2).toNatClampNeg))))), (4, .int (mw (((((14 : Int32) * i) + ((5 : Int32) * k)) + 4).toNatClampNeg))), (3, .int (((14 : Int32) * i) + ((5 : Int32) * k))), (0, .ref ma), (1, .int i), (2, .int k)]) hx hb dX6_frames_153 hl (by decide) rfl (fun ls hl => ?_)
        obtain ⟨⟨q47, q48, q49, q50, q51⟩, hq58, hf⟩ := bd_inv hf
        refine L155 1000 0 mf_63 (FP.fsub FP.fconst1 (FP.fdiv (FP.i2f ((upd (upd mw_63 (((((14 : Int32) * i) + ((5 : Int32) * k)) + 1).toNatClampNeg) ((mw_63 (((((14 : Int32) * i) + ((5 : Int32) * k)) + 1).toNatClampNeg)) + 1)) (((((14 : Int32) * i) + ((5 : Int32) * k)) + 3).toNatClampNeg) (((upd mw_63 (((((14 : Int32) * i) + ((5 : Int32) * k)) + 1).toNatClampNeg) ((mw_63 (((((14 : Int32) * i) + ((5 : Int32) * k)) + 1).toNatClampNeg)) + 1)) (((((14 : Int32) * i) + ((5 : Int32) * k)) + 3).toNatClampNeg)) + 1)) (((((14 : Int32) * i) + ((5 : Int32) * k)) + 3).toNatClampNeg))) (FP.i2f ((upd (upd mw_63 (((((14 : Int32) * i) + ((5 : Int32) * k)) + 1).toNatClampNeg) ((mw_63 (((((14 : Int32) * i) + ((5 : Int32) * k)) + 1).toNatClampNeg)) + 1)) (((((14 : Int32) * i) + ((5 : Int32) * k)) + 3).toNatClampNeg) (((upd mw_63 (((((14 : Int32) * i) + ((5 : Int32) * k)) + 1).toNatClampNeg) ((mw_63 (((((14 : Int32) * i) + ((5 : Int32) * k)) + 1).toNatClampNeg)) + 1)) (((((14 : Int32) * i) + ((5 : Int32) * k)) + 3).toNatClampNeg)) + 1)) (((((14 : Int32) * i) + ((5 : Int32) * k)) + 2).toNatClampNeg))))) (FP.fdiv (FP.i2f ((upd (upd mw_63 (((((14 : Int32) * i) + ((5 : Int32) * k)) + 1).toNatClampNeg) ((mw_63 (((((14 : Int32) * i) + ((5 : Int32) * k)) + 1).toNatClampNeg)) + 1)) (((((14 : Int32) * i) + ((5 : Int32) * k)) + 3).toNatClampNeg) (((upd mw_63 (((((14 : Int32) * i) + ((5 : Int32) * k)) + 1).toNatClampNeg) ((mw_63 (((((14 : Int32) * i) + ((5 : Int32) * k)) + 1).toNatClampNeg)) + 1)) (((((14 : Int32) * i) + ((5 : Int32) * k)) + 3).toNatClampNeg)) + 1)) (((((14 : Int32) * i) + ((5 : Int32) * k)) + 3).toNatClampNeg))) (FP.i2f ((upd (upd mw_63 (((((14 : Int32) * i) + ((5 : Int32) * k)) + 1).toNatClampNeg) ((mw_63 (((((14 : Int32) * i) + ((5 : Int32) * k)) + 1).toNatClampNeg)) + 1)) (((((14 : Int32) * i) + ((5 : Int32) * k)) + 3).toNatClampNeg) (((upd mw_63 (((((14 : Int32) * i) + ((5 : Int32) * k)) + 1).toNatClampNeg) ((mw_63 (((((14 : Int32) * i) + ((5 : Int32) * k)) + 1).toNatClampNeg)) + 1)) (((((14 : Int32) * i) + ((5 : Int32) * k)) + 3).toNatClampNeg)) + 1)) (((((14 : Int32) * i) + ((5 : Int32) * k)) + 2).toNatClampNeg)))) (upd (upd mw_63 (((((14 : Int32) * i) + ((5 : Int32) * k)) + 1).toNatClampNeg) ((mw_63 (((((14 : Int32) * i) + ((5 : Int32) * k)) + 1).toNatClampNeg)) + 1)) (((((14 : Int32) * i) + ((5 : Int32) * k)) + 3).toNatClampNeg) (((upd mw_63 (((((14 : Int32) * i) + ((5 : Int32) * k)) + 1).toNatClampNeg) ((mw_63 (((((14 : Int32) * i) + ((5 : Int32) * k)) + 1).toNatClampNeg)) + 1)) (((((14 : Int32) * i) + ((5 : Int32) * k)) + 3).toNatClampNeg)) + 1)) (q47, q48, q49, q50, q51) hq58 H locs ls hP hD hS (lv_sub hl [0, 1, 2, 3, 4, 5, 6, 7] rfl) (fun H locs ls hP hD hS hl => ?_)
        have hP : va_P D vwCl [(ma, .inr (6, [.int mst, .int mwy, .int mmk, .int mwt, .ref m1, .ref m2, .ref m3, .ref m4, .int mun, .ref m5, .ref m6, .int mln, .int mfi, .int mbe, .int mrs, .int mrw, .int mcl, .int mdo, .int mnu, .ref m7, .ref m8, .ref m9, .ref m10])), (m1, .inl (cI, 24, .inl mvl)), (m2, .inl (cI, 96, .inl mof)), (m3, .inl (cI, 168, .inl q50)), (m4, .inl (cF, 288, .inr (.inr (.inl q51)))), (m5, .inl (cZ, 2, .inl mik)), (m6, .inl (cI, 200, .inl mtx)), (m7, .inl (cI, 56, .inl mwd)), (m8, .inl (cI, 3, .inl msz)), (m9, .inl (cI, 3, .inl mso)), (m10, .inl (cI, 24, .inl mpl))] H := hP
        have hD : va_D A [(ma, .inr (6, [.int mst, .int mwy, .int mmk, .int mwt, .ref m1, .ref m2, .ref m3, .ref m4, .int mun, .ref m5, .ref m6, .int mln, .int mfi, .int mbe, .int mrs, .int mrw, .int mcl, .int mdo, .int mnu, .ref m7, .ref m8, .ref m9, .ref m10])), (m1, .inl (cI, 24, .inl mvl)), (m2, .inl (cI, 96, .inl mof)), (m3, .inl (cI, 168, .inl q50)), (m4, .inl (cF, 288, .inr (.inr (.inl q51)))), (m5, .inl (cZ, 2, .inl mik)), (m6, .inl (cI, 200, .inl mtx)), (m7, .inl (cI, 56, .inl mwd)), (m8, .inl (cI, 3, .inl msz)), (m9, .inl (cI, 3, .inl mso)), (m10, .inl (cI, 24, .inl mpl))] := hD
        have hl : lv_has ls 9 [(7, .int q47), (6, .float q48), (5, .float q49), (4, .int (mw (((((14 : Int32) * i) + ((5 : Int32) * k)) + 4).toNatClampNeg))), (3, .int (((14 : Int32) * i) + ((5 : Int32) * k))), (0, .ref ma), (1, .int i), (2, .int k)] := hl
        refine lv_aload_n hx hb dX6_frames_233 rfl (lv_at hl 5 rfl) ?_
        refine va_get (D := D) (ci := 6) (v := .ref m3) (C := RX6) (T := TX6) (N := 23) hx hb hts w0 hown hK hP 0 rfl rfl 6 (by decide) w1 (fun _ h9 => h9) rfl dX6_frames_234 ?_
        refine lv_iload_n hx hb dX6_frames_237 rfl (lv_at hl 4 rfl) ?_
        refine lv_iconst (v := 3) hx hb dX6_frames_238 (by decide) ?_
        refine lv_iadd hx hb dX6_frames_239 ?_
        obtain ⟨g52, hf⟩ := gd_inv hf
        refine va_iald hx hb hK hP 3 2 rfl rfl g52 dX6_frames_240 ?_
        refine lv_aload_n hx hb dX6_frames_241 rfl (lv_at hl 5 rfl) ?_
        refine va_get (D := D) (ci := 6) (v := .ref m3) (C := RX6) (T := TX6) (N := 23) hx hb hts w0 hown hK hP 0 rfl rfl 6 (by decide) w1 (fun _ h9 => h9) rfl dX6_frames_242 ?_
        refine lv_iload_n hx hb dX6_frames_245 rfl (lv_at hl 4 rfl) ?_
        refine lv_iconst (v := 2) hx hb dX6_frames_246 (by decide) ?_
        refine lv_iadd hx hb dX6_frames_247 ?_
        obtain ⟨g53, hf⟩ := gd_inv hf
        refine va_iald hx hb hK hP 3 2 rfl rfl g53 dX6_frames_248 ?_
        refine lv_icmp_ne (tgt := 258) hx hb dX6_frames_249 (by decide) (fun c54 => ?_) (fun c54 => ?_)
        · have hf := if_n c54 hf
          have h1 := Option.some.inj hf
          subst h1
          rw [hQ]
          exact W.vret hx hb hr (fun t ht hW => qEnd hP hS ht) hS.2.2 dX6_frames_258
        · have hf := if_p c54 hf
          refine lv_aload_n hx hb dX6_frames_252 rfl (lv_at hl 5 rfl) ?_
          refine lv_iload_n hx hb dX6_frames_253 rfl (lv_at hl 6 rfl) ?_
          refine lv_iload_n hx hb dX6_frames_254 rfl (lv_at hl 7 rfl) ?_
          obtain ⟨⟨o55, o56⟩, hc57, hf⟩ := bd_inv hf
          refine xcV (As := [.int i, .int k]) (rest := []) (ws' := [(ma, .inr (6, [.int mst, .int mwy, .int mmk, .int mwt, .ref m1, .ref m2, .ref m3, .ref m4, .int mun, .ref m5, .ref m6, .int mln, .int mfi, .int mbe, .int mrs, .int mrw, .int mcl, .int mdo, .int mnu, .ref m7, .ref m8, .ref m9, .ref m10])), (m1, .inl (cI, 24, .inl mvl)), (m2, .inl (cI, 96, .inl mof)), (m3, .inl (cI, 168, .inl o55)), (m4, .inl (cF, 288, .inr (.inr (.inl o56)))), (m5, .inl (cZ, 2, .inl mik)), (m6, .inl (cI, 200, .inl mtx)), (m7, .inl (cI, 56, .inl mwd)), (m8, .inl (cI, 3, .inl msz)), (m9, .inl (cI, 3, .inl mso)), (m10, .inl (cI, 24, .inl mpl))]) ⟨hx, hb, hml, hown, hts⟩ (c_X6_steadies l D B adK adV cC cF cI cZ cM cS ma mst mwy mmk mwt m1 m2 m3 m4 mun m5 m6 mln mfi mbe mrs mrw mcl mdo mnu m7 m8 m9 m10 mvl mof q50 q51 mik mtx mwd msz mso mpl i k  (o55, o56) hc57) (cwV 2 hts gX6_frames_X6_steadies rfl rfl rfl (by decide +kernel) ⟨Nat.le_of_ble_eq_true rfl, Nat.le_of_ble_eq_true rfl⟩) (va_recv hK hP (ci := 6) (q0 := 0) rfl rfl) hK hP hD hS hB hE [0, 1, 2, 3, 4, 5, 6, 7, 8, 9, 10] rfl rfl rfl rfl rfl hl.1 rfl (Nat.le_of_ble_eq_true rfl) dX6_frames_255 ⟨Nat.le_of_ble_eq_true rfl, Nat.le_of_ble_eq_true rfl⟩ (fun H locs hP hD hS => ?_)
          refine W.eq (g2 := F0 m 258 ls []) rfl ?_
          have h1 := Option.some.inj hf
          subst h1
          rw [hQ]
          exact W.vret hx hb hr (fun t ht hW => qEnd hP hS ht) hS.2.2 dX6_frames_258
  unfold f_X6_frames at hf
  refine lv_bipush (v := 14) hx hb dX6_frames_0 (by decide) ?_
  refine lv_iload_n hx hb dX6_frames_2 rfl (lv_at hl 1 rfl) ?_
  refine lv_imul hx hb dX6_frames_3 ?_
  refine lv_iconst (v := 5) hx hb dX6_frames_4 (by decide) ?_
  refine lv_iload_n hx hb dX6_frames_5 rfl (lv_at hl 2 rfl) ?_
  refine lv_imul hx hb dX6_frames_6 ?_
  refine lv_iadd hx hb dX6_frames_7 ?_
  refine lv_istore_n (lv' := [(3, .int (((14 : Int32) * i) + ((5 : Int32) * k))), (0, .ref ma), (1, .int i), (2, .int k)]) hx hb dX6_frames_8 rfl hl (by decide) rfl (fun ls hl => ?_)
  refine lv_aload_n hx hb dX6_frames_9 rfl (lv_at hl 1 rfl) ?_
  refine va_get (D := D) (ci := 6) (v := .ref m3) (C := RX6) (T := TX6) (N := 23) hx hb hts w0 hown hK hP 0 rfl rfl 6 (by decide) w1 (fun _ h9 => h9) rfl dX6_frames_10 ?_
  refine lv_iload_n hx hb dX6_frames_13 rfl (lv_at hl 0 rfl) ?_
  refine lv_iconst (v := 4) hx hb dX6_frames_14 (by decide) ?_
  refine lv_iadd hx hb dX6_frames_15 ?_
  obtain ⟨g1, hf⟩ := gd_inv hf
  refine va_iald hx hb hK hP 3 2 rfl rfl g1 dX6_frames_16 ?_
  refine lv_istore (lv' := [(4, .int (mw (((((14 : Int32) * i) + ((5 : Int32) * k)) + 4).toNatClampNeg))), (3, .int (((14 : Int32) * i) + ((5 : Int32) * k))), (0, .ref ma), (1, .int i), (2, .int k)]) hx hb dX6_frames_17 hl (by decide) rfl (fun ls hl => ?_)
  refine lv_iload hx hb dX6_frames_19 (lv_at hl 0 rfl) ?_
  refine lv_iconst (v := (-1)) hx hb dX6_frames_21 (by decide) ?_
  refine lv_icmp_eq (tgt := 41) hx hb dX6_frames_22 (by decide) (fun c2 => ?_) (fun c2 => ?_)
  · have hf := if_p c2 hf
    refine lv_aload_n hx hb dX6_frames_41 rfl (lv_at hl 2 rfl) ?_
    refine lv_iload_n hx hb dX6_frames_42 rfl (lv_at hl 3 rfl) ?_
    refine lv_iload_n hx hb dX6_frames_43 rfl (lv_at hl 4 rfl) ?_
    obtain ⟨r3, hc4, hf⟩ := bd_inv hf
    refine xcV (As := [.int i, .int k]) (rest := []) (ws' := [(ma, .inr (6, [.int mst, .int mwy, .int mmk, .int mwt, .ref m1, .ref m2, .ref m3, .ref m4, .int mun, .ref m5, .ref m6, .int mln, .int mfi, .int mbe, .int mrs, .int mrw, .int mcl, .int mdo, .int mnu, .ref m7, .ref m8, .ref m9, .ref m10])), (m1, .inl (cI, 24, .inl mvl)), (m2, .inl (cI, 96, .inl mof)), (m3, .inl (cI, 168, .inl mw)), (m4, .inl (cF, 288, .inr (.inr (.inl mf)))), (m5, .inl (cZ, 2, .inl mik)), (m6, .inl (cI, 200, .inl mtx)), (m7, .inl (cI, 56, .inl mwd)), (m8, .inl (cI, 3, .inl msz)), (m9, .inl (cI, 3, .inl mso)), (m10, .inl (cI, 24, .inl mpl))]) ⟨hx, hb, hml, hown, hts⟩ (c_X6_taken l D B adK adV cC cF cI cZ cM cS ma mst mwy mmk mwt m1 m2 m3 m4 mun m5 m6 mln mfi mbe mrs mrw mcl mdo mnu m7 m8 m9 m10 mvl mof mw mf mik mtx mwd msz mso mpl i k  r3 hc4) (cwV 2 hts gX6_frames_X6_taken rfl rfl rfl (by decide +kernel) ⟨Nat.le_of_ble_eq_true rfl, Nat.le_of_ble_eq_true rfl⟩) (va_recv hK hP (ci := 6) (q0 := 0) rfl rfl) hK hP hD hS hB hE [0, 1, 2, 3, 4, 5, 6, 7, 8, 9, 10] rfl rfl rfl rfl rfl hl.1 rfl (Nat.le_of_ble_eq_true rfl) dX6_frames_44 ⟨Nat.le_of_ble_eq_true rfl, Nat.le_of_ble_eq_true rfl⟩ (fun H locs hP hD hS => ?_)
    refine W.eq (g2 := F0 m 47 ls [.int r3]) rfl ?_
    refine lv_istore (lv' := [(5, .int r3), (4, .int (mw (((((14 : Int32) * i) + ((5 : Int32) * k)) + 4).toNatClampNeg))), (3, .int (((14 : Int32) * i) + ((5 : Int32) * k))), (0, .ref ma), (1, .int i), (2, .int k)]) hx hb dX6_frames_47 hl (by decide) rfl (fun ls hl => ?_)
    refine lv_iload hx hb dX6_frames_49 (lv_at hl 0 rfl) ?_
    refine lv_iconst (v := (-1)) hx hb dX6_frames_51 (by decide) ?_
    refine lv_icmp_eq (tgt := 63) hx hb dX6_frames_52 (by decide) (fun c5 => ?_) (fun c5 => ?_)
    · have hf := if_p c5 hf
      exact L63 mw mf hf H locs ls hP hD hS (lv_sub hl [1, 2, 3, 4, 5] rfl)
    · have hf := if_n c5 hf
      refine lv_aload_n hx hb dX6_frames_55 rfl (lv_at hl 3 rfl) ?_
      refine lv_iload_n hx hb dX6_frames_56 rfl (lv_at hl 4 rfl) ?_
      refine lv_iload_n hx hb dX6_frames_57 rfl (lv_at hl 5 rfl) ?_
      refine lv_iload hx hb dX6_frames_58 (lv_at hl 0 rfl) ?_
      obtain ⟨⟨o59, o60⟩, hc61, hf⟩ := bd_inv hf
      refine xcV (As := [.int i, .int k, .int r3]) (rest := []) (ws' := [(ma, .inr (6, [.int mst, .int mwy, .int mmk, .int mwt, .ref m1, .ref m2, .ref m3, .ref m4, .int mun, .ref m5, .ref m6, .int mln, .int mfi, .int mbe, .int mrs, .int mrw, .int mcl, .int mdo, .int mnu, .ref m7, .ref m8, .ref m9, .ref m10])), (m1, .inl (cI, 24, .inl mvl)), (m2, .inl (cI, 96, .inl mof)), (m3, .inl (cI, 168, .inl o59)), (m4, .inl (cF, 288, .inr (.inr (.inl o60)))), (m5, .inl (cZ, 2, .inl mik)), (m6, .inl (cI, 200, .inl mtx)), (m7, .inl (cI, 56, .inl mwd)), (m8, .inl (cI, 3, .inl msz)), (m9, .inl (cI, 3, .inl mso)), (m10, .inl (cI, 24, .inl mpl))]) ⟨hx, hb, hml, hown, hts⟩ (c_X6_takes l D B adK adV cC cF cI cZ cM cS ma mst mwy mmk mwt m1 m2 m3 m4 mun m5 m6 mln mfi mbe mrs mrw mcl mdo mnu m7 m8 m9 m10 mvl mof mw mf mik mtx mwd msz mso mpl i k r3  (o59, o60) hc61) (cwV 3 hts gX6_frames_X6_takes rfl rfl rfl (by decide +kernel) ⟨Nat.le_of_ble_eq_true rfl, Nat.le_of_ble_eq_true rfl⟩) (va_recv hK hP (ci := 6) (q0 := 0) rfl rfl) hK hP hD hS hB hE [0, 1, 2, 3, 4, 5, 6, 7, 8, 9, 10] rfl rfl rfl rfl rfl hl.1 rfl (Nat.le_of_ble_eq_true rfl) dX6_frames_60 ⟨Nat.le_of_ble_eq_true rfl, Nat.le_of_ble_eq_true rfl⟩ (fun H locs hP hD hS => ?_)
      refine W.eq (g2 := F0 m 63 ls []) rfl ?_
      exact L63 o59 o60 hf H locs ls hP hD hS (lv_sub hl [1, 2, 3, 4, 5] rfl)
  · have hf := if_n c2 hf
    refine lv_aload_n hx hb dX6_frames_25 rfl (lv_at hl 2 rfl) ?_
    refine va_get (D := D) (ci := 6) (v := .ref m2) (C := RX6) (T := TX6) (N := 23) hx hb hts w0 hown hK hP 0 rfl rfl 5 (by decide) w3 (fun _ h9 => h9) rfl dX6_frames_26 ?_
    refine lv_bipush (v := 8) hx hb dX6_frames_29 (by decide) ?_
    refine lv_iload hx hb dX6_frames_31 (lv_at hl 0 rfl) ?_
    refine lv_imul hx hb dX6_frames_33 ?_
    refine lv_iconst (v := 3) hx hb dX6_frames_34 (by decide) ?_
    refine lv_iadd hx hb dX6_frames_35 ?_
    obtain ⟨g62, hf⟩ := gd_inv hf
    refine va_iald hx hb hK hP 2 2 rfl rfl g62 dX6_frames_36 ?_
    refine lv_iconst (v := 1) hx hb dX6_frames_37 (by decide) ?_
    refine lv_icmp_ne (tgt := 63) hx hb dX6_frames_38 (by decide) (fun c63 => ?_) (fun c63 => ?_)
    · have hf := if_n c63 hf
      exact L63 mw mf hf H locs ls hP hD hS (lv_sub hl [0, 1, 2, 3, 4] rfl)
    · have hf := if_p c63 hf
      refine lv_aload_n hx hb dX6_frames_41 rfl (lv_at hl 2 rfl) ?_
      refine lv_iload_n hx hb dX6_frames_42 rfl (lv_at hl 3 rfl) ?_
      refine lv_iload_n hx hb dX6_frames_43 rfl (lv_at hl 4 rfl) ?_
      obtain ⟨r64, hc65, hf⟩ := bd_inv hf
      refine xcV (As := [.int i, .int k]) (rest := []) (ws' := [(ma, .inr (6, [.int mst, .int mwy, .int mmk, .int mwt, .ref m1, .ref m2, .ref m3, .ref m4, .int mun, .ref m5, .ref m6, .int mln, .int mfi, .int mbe, .int mrs, .int mrw, .int mcl, .int mdo, .int mnu, .ref m7, .ref m8, .ref m9, .ref m10])), (m1, .inl (cI, 24, .inl mvl)), (m2, .inl (cI, 96, .inl mof)), (m3, .inl (cI, 168, .inl mw)), (m4, .inl (cF, 288, .inr (.inr (.inl mf)))), (m5, .inl (cZ, 2, .inl mik)), (m6, .inl (cI, 200, .inl mtx)), (m7, .inl (cI, 56, .inl mwd)), (m8, .inl (cI, 3, .inl msz)), (m9, .inl (cI, 3, .inl mso)), (m10, .inl (cI, 24, .inl mpl))]) ⟨hx, hb, hml, hown, hts⟩ (c_X6_taken l D B adK adV cC cF cI cZ cM cS ma mst mwy mmk mwt m1 m2 m3 m4 mun m5 m6 mln mfi mbe mrs mrw mcl mdo mnu m7 m8 m9 m10 mvl mof mw mf mik mtx mwd msz mso mpl i k  r64 hc65) (cwV 2 hts gX6_frames_X6_taken rfl rfl rfl (by decide +kernel) ⟨Nat.le_of_ble_eq_true rfl, Nat.le_of_ble_eq_true rfl⟩) (va_recv hK hP (ci := 6) (q0 := 0) rfl rfl) hK hP hD hS hB hE [0, 1, 2, 3, 4, 5, 6, 7, 8, 9, 10] rfl rfl rfl rfl rfl hl.1 rfl (Nat.le_of_ble_eq_true rfl) dX6_frames_44 ⟨Nat.le_of_ble_eq_true rfl, Nat.le_of_ble_eq_true rfl⟩ (fun H locs hP hD hS => ?_)
      refine W.eq (g2 := F0 m 47 ls [.int r64]) rfl ?_
      refine lv_istore (lv' := [(5, .int r64), (4, .int (mw (((((14 : Int32) * i) + ((5 : Int32) * k)) + 4).toNatClampNeg))), (3, .int (((14 : Int32) * i) + ((5 : Int32) * k))), (0, .ref ma), (1, .int i), (2, .int k)]) hx hb dX6_frames_47 hl (by decide) rfl (fun ls hl => ?_)
      refine lv_iload hx hb dX6_frames_49 (lv_at hl 0 rfl) ?_
      refine lv_iconst (v := (-1)) hx hb dX6_frames_51 (by decide) ?_
      refine lv_icmp_eq (tgt := 63) hx hb dX6_frames_52 (by decide) (fun c66 => ?_) (fun c66 => ?_)
      · have hf := if_p c66 hf
        exact L63 mw mf hf H locs ls hP hD hS (lv_sub hl [1, 2, 3, 4, 5] rfl)
      · have hf := if_n c66 hf
        refine lv_aload_n hx hb dX6_frames_55 rfl (lv_at hl 3 rfl) ?_
        refine lv_iload_n hx hb dX6_frames_56 rfl (lv_at hl 4 rfl) ?_
        refine lv_iload_n hx hb dX6_frames_57 rfl (lv_at hl 5 rfl) ?_
        refine lv_iload hx hb dX6_frames_58 (lv_at hl 0 rfl) ?_
        obtain ⟨⟨o67, o68⟩, hc69, hf⟩ := bd_inv hf
        refine xcV (As := [.int i, .int k, .int r64]) (rest := []) (ws' := [(ma, .inr (6, [.int mst, .int mwy, .int mmk, .int mwt, .ref m1, .ref m2, .ref m3, .ref m4, .int mun, .ref m5, .ref m6, .int mln, .int mfi, .int mbe, .int mrs, .int mrw, .int mcl, .int mdo, .int mnu, .ref m7, .ref m8, .ref m9, .ref m10])), (m1, .inl (cI, 24, .inl mvl)), (m2, .inl (cI, 96, .inl mof)), (m3, .inl (cI, 168, .inl o67)), (m4, .inl (cF, 288, .inr (.inr (.inl o68)))), (m5, .inl (cZ, 2, .inl mik)), (m6, .inl (cI, 200, .inl mtx)), (m7, .inl (cI, 56, .inl mwd)), (m8, .inl (cI, 3, .inl msz)), (m9, .inl (cI, 3, .inl mso)), (m10, .inl (cI, 24, .inl mpl))]) ⟨hx, hb, hml, hown, hts⟩ (c_X6_takes l D B adK adV cC cF cI cZ cM cS ma mst mwy mmk mwt m1 m2 m3 m4 mun m5 m6 mln mfi mbe mrs mrw mcl mdo mnu m7 m8 m9 m10 mvl mof mw mf mik mtx mwd msz mso mpl i k r64  (o67, o68) hc69) (cwV 3 hts gX6_frames_X6_takes rfl rfl rfl (by decide +kernel) ⟨Nat.le_of_ble_eq_true rfl, Nat.le_of_ble_eq_true rfl⟩) (va_recv hK hP (ci := 6) (q0 := 0) rfl rfl) hK hP hD hS hB hE [0, 1, 2, 3, 4, 5, 6, 7, 8, 9, 10] rfl rfl rfl rfl rfl hl.1 rfl (Nat.le_of_ble_eq_true rfl) dX6_frames_60 ⟨Nat.le_of_ble_eq_true rfl, Nat.le_of_ble_eq_true rfl⟩ (fun H locs hP hD hS => ?_)
        refine W.eq (g2 := F0 m 63 ls []) rfl ?_
        exact L63 o67 o68 hf H locs ls hP hD hS (lv_sub hl [1, 2, 3, 4, 5] rfl)
set_option maxRecDepth 100000 in
set_option maxHeartbeats 4000000 in
theorem c_X6_frame (l : Launch) (D : va_G) (B : Nat) (adK adV : Nat → Nat) (cC cF cI cZ cM cS : ClassId) (ma : Nat) (mst : Int32) (mwy : Int32) (mmk : Int32) (mwt : Int32) (m1 : Nat) (m2 : Nat) (m3 : Nat) (m4 : Nat) (mun : Int32) (m5 : Nat) (m6 : Nat) (mln : Int32) (mfi : Int32) (mbe : Int32) (mrs : Int32) (mrw : Int32) (mcl : Int32) (mdo : Int32) (mnu : Int32) (m7 : Nat) (m8 : Nat) (m9 : Nat) (m10 : Nat) (mvl : Nat → Int32) (mof : Nat → Int32) (mw : Nat → Int32) (mf : Nat → UInt32) (mik : Nat → Int32) (mtx : Nat → Int32) (mwd : Nat → Int32) (msz : Nat → Int32) (mso : Nat → Int32) (mpl : Nat → Int32) (i : Int32) (zz : (Nat → Int32) × (Nat → UInt32)) (hf : f_X6_frame mwy mof mw mf i = some zz) : Ct l yX6_frame wsX6_frame { frames := 4, cells := 0, slots := 0, locals := 100 } D B adK adV (tysX cC cF cI cZ cM cS) [.ref ma, .int i] [(ma, .inr (6, [.int mst, .int mwy, .int mmk, .int mwt, .ref m1, .ref m2, .ref m3, .ref m4, .int mun, .ref m5, .ref m6, .int mln, .int mfi, .int mbe, .int mrs, .int mrw, .int mcl, .int mdo, .int mnu, .ref m7, .ref m8, .ref m9, .ref m10])), (m1, .inl (cI, 24, .inl mvl)), (m2, .inl (cI, 96, .inl mof)), (m3, .inl (cI, 168, .inl mw)), (m4, .inl (cF, 288, .inr (.inr (.inl mf)))), (m5, .inl (cZ, 2, .inl mik)), (m6, .inl (cI, 200, .inl mtx)), (m7, .inl (cI, 56, .inl mwd)), (m8, .inl (cI, 3, .inl msz)), (m9, .inl (cI, 3, .inl mso)), (m10, .inl (cI, 24, .inl mpl))] [(ma, .inr (6, [.int mst, .int mwy, .int mmk, .int mwt, .ref m1, .ref m2, .ref m3, .ref m4, .int mun, .ref m5, .ref m6, .int mln, .int mfi, .int mbe, .int mrs, .int mrw, .int mcl, .int mdo, .int mnu, .ref m7, .ref m8, .ref m9, .ref m10])), (m1, .inl (cI, 24, .inl mvl)), (m2, .inl (cI, 96, .inl mof)), (m3, .inl (cI, 168, .inl zz.1)), (m4, .inl (cF, 288, .inr (.inr (.inl zz.2)))), (m5, .inl (cZ, 2, .inl mik)), (m6, .inl (cI, 200, .inl mtx)), (m7, .inl (cI, 56, .inl mwd)), (m8, .inl (cI, 3, .inl msz)), (m9, .inl (cI, 3, .inl mso)), (m10, .inl (cI, 24, .inl mpl))] none := by
  refine Ct.ofW (cc := cX6_frame) (maxL := 2) (ret := none) (by decide) rfl (Nat.le_of_ble_eq_true rfl) ?_
  intro p e s m args below meth c hx hb hr hml hts hown hlocks hnm hK hE A Q hQ hB H locs ls hP hD hS hl
  have hl : lv_has ls 2 [(0, .ref ma), (1, .int i)] := hl
  unfold f_X6_frame at hf
  refine lv_aload_n hx hb dX6_frame_0 rfl (lv_at hl 0 rfl) ?_
  refine lv_iload_n hx hb dX6_frame_1 rfl (lv_at hl 1 rfl) ?_
  refine lv_iconst (v := 0) hx hb dX6_frame_2 (by decide) ?_
  obtain ⟨⟨o1, o2⟩, hc3, hf⟩ := bd_inv hf
  refine xcV (As := [.int i, .int 0]) (rest := []) (ws' := [(ma, .inr (6, [.int mst, .int mwy, .int mmk, .int mwt, .ref m1, .ref m2, .ref m3, .ref m4, .int mun, .ref m5, .ref m6, .int mln, .int mfi, .int mbe, .int mrs, .int mrw, .int mcl, .int mdo, .int mnu, .ref m7, .ref m8, .ref m9, .ref m10])), (m1, .inl (cI, 24, .inl mvl)), (m2, .inl (cI, 96, .inl mof)), (m3, .inl (cI, 168, .inl o1)), (m4, .inl (cF, 288, .inr (.inr (.inl o2)))), (m5, .inl (cZ, 2, .inl mik)), (m6, .inl (cI, 200, .inl mtx)), (m7, .inl (cI, 56, .inl mwd)), (m8, .inl (cI, 3, .inl msz)), (m9, .inl (cI, 3, .inl mso)), (m10, .inl (cI, 24, .inl mpl))]) ⟨hx, hb, hml, hown, hts⟩ (c_X6_frames l D B adK adV cC cF cI cZ cM cS ma mst mwy mmk mwt m1 m2 m3 m4 mun m5 m6 mln mfi mbe mrs mrw mcl mdo mnu m7 m8 m9 m10 mvl mof mw mf mik mtx mwd msz mso mpl i 0  (o1, o2) hc3) (cwV 2 hts gX6_frame_X6_frames rfl rfl rfl (by decide +kernel) ⟨Nat.le_of_ble_eq_true rfl, Nat.le_of_ble_eq_true rfl⟩) (va_recv hK hP (ci := 6) (q0 := 0) rfl rfl) hK hP hD hS hB hE [0, 1, 2, 3, 4, 5, 6, 7, 8, 9, 10] rfl rfl rfl rfl rfl hl.1 rfl (Nat.le_of_ble_eq_true rfl) dX6_frame_3 ⟨Nat.le_of_ble_eq_true rfl, Nat.le_of_ble_eq_true rfl⟩ (fun H locs hP hD hS => ?_)
  refine W.eq (g2 := F0 m 6 ls []) rfl ?_
  refine lv_aload_n hx hb dX6_frame_6 rfl (lv_at hl 0 rfl) ?_
  refine lv_iload_n hx hb dX6_frame_7 rfl (lv_at hl 1 rfl) ?_
  refine lv_iconst (v := 1) hx hb dX6_frame_8 (by decide) ?_
  obtain ⟨⟨o4, o5⟩, hc6, hf⟩ := bd_inv hf
  refine xcV (As := [.int i, .int 1]) (rest := []) (ws' := [(ma, .inr (6, [.int mst, .int mwy, .int mmk, .int mwt, .ref m1, .ref m2, .ref m3, .ref m4, .int mun, .ref m5, .ref m6, .int mln, .int mfi, .int mbe, .int mrs, .int mrw, .int mcl, .int mdo, .int mnu, .ref m7, .ref m8, .ref m9, .ref m10])), (m1, .inl (cI, 24, .inl mvl)), (m2, .inl (cI, 96, .inl mof)), (m3, .inl (cI, 168, .inl o4)), (m4, .inl (cF, 288, .inr (.inr (.inl o5)))), (m5, .inl (cZ, 2, .inl mik)), (m6, .inl (cI, 200, .inl mtx)), (m7, .inl (cI, 56, .inl mwd)), (m8, .inl (cI, 3, .inl msz)), (m9, .inl (cI, 3, .inl mso)), (m10, .inl (cI, 24, .inl mpl))]) ⟨hx, hb, hml, hown, hts⟩ (c_X6_frames l D B adK adV cC cF cI cZ cM cS ma mst mwy mmk mwt m1 m2 m3 m4 mun m5 m6 mln mfi mbe mrs mrw mcl mdo mnu m7 m8 m9 m10 mvl mof o1 o2 mik mtx mwd msz mso mpl i 1  (o4, o5) hc6) (cwV 2 hts gX6_frame_X6_frames rfl rfl rfl (by decide +kernel) ⟨Nat.le_of_ble_eq_true rfl, Nat.le_of_ble_eq_true rfl⟩) (va_recv hK hP (ci := 6) (q0 := 0) rfl rfl) hK hP hD hS hB hE [0, 1, 2, 3, 4, 5, 6, 7, 8, 9, 10] rfl rfl rfl rfl rfl hl.1 rfl (Nat.le_of_ble_eq_true rfl) dX6_frame_9 ⟨Nat.le_of_ble_eq_true rfl, Nat.le_of_ble_eq_true rfl⟩ (fun H locs hP hD hS => ?_)
  refine W.eq (g2 := F0 m 12 ls []) rfl ?_
  have h1 := Option.some.inj hf
  subst h1
  rw [hQ]
  exact W.vret hx hb hr (fun t ht hW => qEnd hP hS ht) hS.2.2 dX6_frame_12
set_option maxRecDepth 100000 in
set_option maxHeartbeats 4000000 in
theorem c_X6_step (l : Launch) (D : va_G) (B : Nat) (adK adV : Nat → Nat) (cC cF cI cZ cM cS : ClassId) (ma : Nat) (mst : Int32) (mwy : Int32) (mmk : Int32) (mwt : Int32) (m1 : Nat) (m2 : Nat) (m3 : Nat) (m4 : Nat) (mun : Int32) (m5 : Nat) (m6 : Nat) (mln : Int32) (mfi : Int32) (mbe : Int32) (mrs : Int32) (mrw : Int32) (mcl : Int32) (mdo : Int32) (mnu : Int32) (m7 : Nat) (m8 : Nat) (m9 : Nat) (m10 : Nat) (mvl : Nat → Int32) (mof : Nat → Int32) (mw : Nat → Int32) (mf : Nat → UInt32) (mik : Nat → Int32) (mtx : Nat → Int32) (mwd : Nat → Int32) (msz : Nat → Int32) (mso : Nat → Int32) (mpl : Nat → Int32) (cnt : Int32) (zz : Int32 × (Nat → Int32) × (Nat → UInt32) × Int32) (hf : f_X6_step mst mwy mun mof mw mf cnt = some zz) : Ct l yX6_step wsX6_step { frames := 5, cells := 0, slots := 0, locals := 121 } D B adK adV (tysX cC cF cI cZ cM cS) [.ref ma, .int cnt] [(ma, .inr (6, [.int mst, .int mwy, .int mmk, .int mwt, .ref m1, .ref m2, .ref m3, .ref m4, .int mun, .ref m5, .ref m6, .int mln, .int mfi, .int mbe, .int mrs, .int mrw, .int mcl, .int mdo, .int mnu, .ref m7, .ref m8, .ref m9, .ref m10])), (m1, .inl (cI, 24, .inl mvl)), (m2, .inl (cI, 96, .inl mof)), (m3, .inl (cI, 168, .inl mw)), (m4, .inl (cF, 288, .inr (.inr (.inl mf)))), (m5, .inl (cZ, 2, .inl mik)), (m6, .inl (cI, 200, .inl mtx)), (m7, .inl (cI, 56, .inl mwd)), (m8, .inl (cI, 3, .inl msz)), (m9, .inl (cI, 3, .inl mso)), (m10, .inl (cI, 24, .inl mpl))] [(ma, .inr (6, [.int mst, .int mwy, .int mmk, .int mwt, .ref m1, .ref m2, .ref m3, .ref m4, .int zz.2.2.2, .ref m5, .ref m6, .int mln, .int mfi, .int mbe, .int mrs, .int mrw, .int mcl, .int mdo, .int mnu, .ref m7, .ref m8, .ref m9, .ref m10])), (m1, .inl (cI, 24, .inl mvl)), (m2, .inl (cI, 96, .inl mof)), (m3, .inl (cI, 168, .inl zz.2.1)), (m4, .inl (cF, 288, .inr (.inr (.inl zz.2.2.1)))), (m5, .inl (cZ, 2, .inl mik)), (m6, .inl (cI, 200, .inl mtx)), (m7, .inl (cI, 56, .inl mwd)), (m8, .inl (cI, 3, .inl msz)), (m9, .inl (cI, 3, .inl mso)), (m10, .inl (cI, 24, .inl mpl))] (some (.int zz.1)) := by
  refine Ct.ofW (cc := cX6_step) (maxL := 3) (ret := (some .int)) (by decide) rfl (Nat.le_of_ble_eq_true rfl) ?_
  intro p e s m args below meth c hx hb hr hml hts hown hlocks hnm hK hE A Q hQ hB H locs ls hP hD hS hl
  have hl : lv_has ls 3 [(0, .ref ma), (1, .int cnt)] := hl
  have w0 := hts (.constantLong RX6 174 (99)) (by decide +kernel)
  have w1 : ∀ w ∈ u_ws RX6 TX6 23, w ∈ wsX6_step := by decide +kernel
  have w2 := hts (.fieldLink RX6 144 "MotionStatesModel" "states" "I") (by decide +kernel)
  have w3 := hts (.fieldLink RX6 20 "MotionStatesModel" "w" "[I") (by decide +kernel)
  have L31 : ∀ (n : Nat) (o7 : Int32) (x2_31 : Int32) (mw_31 : Nat → Int32) (mf_31 : Nat → UInt32) (oo : Int32 × (Nat → Int32) × (Nat → UInt32)), f_X6_step_L31 cnt mwy mof n x2_31 mw_31 mf_31 = some oo → ∀ (H : Heap) (locs : List Loc) (ls : Array Slot), va_P D vwCl [(ma, .inr (6, [.int mst, .int mwy, .int mmk, .int mwt, .ref m1, .ref m2, .ref m3, .ref m4, .int o7, .ref m5, .ref m6, .int mln, .int mfi, .int mbe, .int mrs, .int mrw, .int mcl, .int mdo, .int mnu, .ref m7, .ref m8, .ref m9, .ref m10])), (m1, .inl (cI, 24, .inl mvl)), (m2, .inl (cI, 96, .inl mof)), (m3, .inl (cI, 168, .inl mw_31)), (m4, .inl (cF, 288, .inr (.inr (.inl mf_31)))), (m5, .inl (cZ, 2, .inl mik)), (m6, .inl (cI, 200, .inl mtx)), (m7, .inl (cI, 56, .inl mwd)), (m8, .inl (cI, 3, .inl msz)), (m9, .inl (cI, 3, .inl mso)), (m10, .inl (cI, 24, .inl mpl))] H → va_D A [(ma, .inr (6, [.int mst, .int mwy, .int mmk, .int mwt, .ref m1, .ref m2, .ref m3, .ref m4, .int o7, .ref m5, .ref m6, .int mln, .int mfi, .int mbe, .int mrs, .int mrw, .int mcl, .int mdo, .int mnu, .ref m7, .ref m8, .ref m9, .ref m10])), (m1, .inl (cI, 24, .inl mvl)), (m2, .inl (cI, 96, .inl mof)), (m3, .inl (cI, 168, .inl mw_31)), (m4, .inl (cF, 288, .inr (.inr (.inl mf_31)))), (m5, .inl (cZ, 2, .inl mik)), (m6, .inl (cI, 200, .inl mtx)), (m7, .inl (cI, 56, .inl mwd)), (m8, .inl (cI, 3, .inl msz)), (m9, .inl (cI, 3, .inl mso)), (m10, .inl (cI, 24, .inl mpl))] → va_S A s.heap H locs → lv_has ls 3 [(2, .int x2_31), (0, .ref ma), (1, .int cnt)] → (∀ (H : Heap) (locs : List Loc) (ls : Array Slot), va_P D vwCl [(ma, .inr (6, [.int mst, .int mwy, .int mmk, .int mwt, .ref m1, .ref m2, .ref m3, .ref m4, .int o7, .ref m5, .ref m6, .int mln, .int mfi, .int mbe, .int mrs, .int mrw, .int mcl, .int mdo, .int mnu, .ref m7, .ref m8, .ref m9, .ref m10])), (m1, .inl (cI, 24, .inl mvl)), (m2, .inl (cI, 96, .inl mof)), (m3, .inl (cI, 168, .inl oo.2.1)), (m4, .inl (cF, 288, .inr (.inr (.inl oo.2.2)))), (m5, .inl (cZ, 2, .inl mik)), (m6, .inl (cI, 200, .inl mtx)), (m7, .inl (cI, 56, .inl mwd)), (m8, .inl (cI, 3, .inl msz)), (m9, .inl (cI, 3, .inl mso)), (m10, .inl (cI, 24, .inl mpl))] H → va_D A [(ma, .inr (6, [.int mst, .int mwy, .int mmk, .int mwt, .ref m1, .ref m2, .ref m3, .ref m4, .int o7, .ref m5, .ref m6, .int mln, .int mfi, .int mbe, .int mrs, .int mrw, .int mcl, .int mdo, .int mnu, .ref m7, .ref m8, .ref m9, .ref m10])), (m1, .inl (cI, 24, .inl mvl)), (m2, .inl (cI, 96, .inl mof)), (m3, .inl (cI, 168, .inl oo.2.1)), (m4, .inl (cF, 288, .inr (.inr (.inl oo.2.2)))), (m5, .inl (cZ, 2, .inl mik)), (m6, .inl (cI, 200, .inl mtx)), (m7, .inl (cI, 56, .inl mwd)), (m8, .inl (cI, 3, .inl msz)), (m9, .inl (cI, 3, .inl mso)), (m10, .inl (cI, 24, .inl mpl))] → va_S A s.heap H locs → lv_has ls 3 [(2, .int oo.1), (0, .ref ma), (1, .int cnt)] → W p l e { frames := 5, cells := 0, slots := 0, locals := 121 } s m args below meth c H locs 0 0 Q (F0 m 47 ls [])) → W p l e { frames := 5, cells := 0, slots := 0, locals := 121 } s m args below meth c H locs 0 0 Q (F0 m 31 ls []) := by
    intro n o7
    induction n with
    | zero => intro x2_31 mw_31 mf_31 oo hf; exact absurd hf (by simp [f_X6_step_L31])
    | succ n ih =>
      intro x2_31 mw_31 mf_31 oo hf H locs ls hP hD hS hl kk
      rw [f_X6_step_L31] at hf
      refine lv_iload_n hx hb dX6_step_31 rfl (lv_at hl 0 rfl) ?_
      refine lv_iload_n hx hb dX6_step_32 rfl (lv_at hl 2 rfl) ?_
      refine lv_icmp_ge (tgt := 47) hx hb dX6_step_33 (by decide) (fun c9 => ?_) (fun c9 => ?_)
      · have hf := if_p c9 hf
        have h1 := Option.some.inj hf
        subst h1
        exact kk H locs ls hP hD hS (lv_sub hl [0, 1, 2] rfl)
      · have hf := if_n c9 hf
        refine lv_aload_n hx hb dX6_step_36 rfl (lv_at hl 1 rfl) ?_
        refine lv_iconst (v := 0) hx hb dX6_step_37 (by decide) ?_
        obtain ⟨⟨o10, o11⟩, hc12, hf⟩ := bd_inv hf
        refine xcV (As := [.int 0]) (rest := []) (ws' := [(ma, .inr (6, [.int mst, .int mwy, .int mmk, .int mwt, .ref m1, .ref m2, .ref m3, .ref m4, .int o7, .ref m5, .ref m6, .int mln, .int mfi, .int mbe, .int mrs, .int mrw, .int mcl, .int mdo, .int mnu, .ref m7, .ref m8, .ref m9, .ref m10])), (m1, .inl (cI, 24, .inl mvl)), (m2, .inl (cI, 96, .inl mof)), (m3, .inl (cI, 168, .inl o10)), (m4, .inl (cF, 288, .inr (.inr (.inl o11)))), (m5, .inl (cZ, 2, .inl mik)), (m6, .inl (cI, 200, .inl mtx)), (m7, .inl (cI, 56, .inl mwd)), (m8, .inl (cI, 3, .inl msz)), (m9, .inl (cI, 3, .inl mso)), (m10, .inl (cI, 24, .inl mpl))]) ⟨hx, hb, hml, hown, hts⟩ (c_X6_frame l D B adK adV cC cF cI cZ cM cS ma mst mwy mmk mwt m1 m2 m3 m4 o7 m5 m6 mln mfi mbe mrs mrw mcl mdo mnu m7 m8 m9 m10 mvl mof mw_31 mf_31 mik mtx mwd msz mso mpl 0  (o10, o11) hc12) (cwV 1 hts gX6_step_X6_frame rfl rfl rfl (by decide +kernel) ⟨Nat.le_of_ble_eq_true rfl, Nat.le_of_ble_eq_true rfl⟩) (va_recv hK hP (ci := 6) (q0 := 0) rfl rfl) hK hP hD hS hB hE [0, 1, 2, 3, 4, 5, 6, 7, 8, 9, 10] rfl rfl rfl rfl rfl hl.1 rfl (Nat.le_of_ble_eq_true rfl) dX6_step_38 ⟨Nat.le_of_ble_eq_true rfl, Nat.le_of_ble_eq_true rfl⟩ (fun H locs hP hD hS => ?_)
        refine W.eq (g2 := F0 m 41 ls []) rfl ?_
        refine lv_iinc (v := x2_31 + 1) (lv' := [(2, .int (x2_31 + 1)), (0, .ref ma), (1, .int cnt)]) hx hb dX6_step_41 hl (k := 0) rfl rfl (by decide) rfl (fun ls hl => ?_)
        refine lv_goto (tgt := 31) hx hb dX6_step_44 (by decide) ?_
        exact ih (x2_31 + 1) o10 o11 oo hf H locs ls hP hD hS (lv_sub hl [0, 1, 2] rfl) kk
  unfold f_X6_step at hf
  refine lv_iload_n hx hb dX6_step_0 rfl (lv_at hl 1 rfl) ?_
  refine lv_i2l hx hb dX6_step_1 rfl ?_
  refine lv_lconst (v := 1) hx hb dX6_step_2 (by decide) ?_
  refine lv_ldc2 hx hb hown w0 dX6_step_3 ?_
  obtain ⟨r1, hc2, hf⟩ := bd_inv hf
  refine xcS (As := [.long (cnt.toInt64), .long 1, .long 99]) (rest := []) (ws' := [(ma, .inr (6, [.int mst, .int mwy, .int mmk, .int mwt, .ref m1, .ref m2, .ref m3, .ref m4, .int mun, .ref m5, .ref m6, .int mln, .int mfi, .int mbe, .int mrs, .int mrw, .int mcl, .int mdo, .int mnu, .ref m7, .ref m8, .ref m9, .ref m10])), (m1, .inl (cI, 24, .inl mvl)), (m2, .inl (cI, 96, .inl mof)), (m3, .inl (cI, 168, .inl mw)), (m4, .inl (cF, 288, .inr (.inr (.inl mf)))), (m5, .inl (cZ, 2, .inl mik)), (m6, .inl (cI, 200, .inl mtx)), (m7, .inl (cI, 56, .inl mwd)), (m8, .inl (cI, 3, .inl msz)), (m9, .inl (cI, 3, .inl mso)), (m10, .inl (cI, 24, .inl mpl))]) ⟨hx, hb, hml, hown, hts⟩ (c_X6_in l D B adK adV cC cF cI cZ cM cS (cnt.toInt64) 1 99  r1 hc2) (va_cwS 3 hts gX6_step_X6_in rfl rfl rfl (by decide +kernel) ⟨Nat.le_of_ble_eq_true rfl, Nat.le_of_ble_eq_true rfl⟩) hK hP hD hS hB hE [] rfl rfl rfl rfl rfl hl.1 rfl (Nat.le_of_ble_eq_true rfl) dX6_step_6 ⟨Nat.le_of_ble_eq_true rfl, Nat.le_of_ble_eq_true rfl⟩ (fun H locs hP hD hS => ?_)
  refine W.eq (g2 := F0 m 9 ls [.int r1]) rfl ?_
  refine lv_if_ne (tgt := 15) hx hb dX6_step_9 (by decide) (fun c3 => ?_) (fun c3 => ?_)
  · have hf := if_n c3 hf
    refine lv_aload_n hx hb dX6_step_15 rfl (lv_at hl 0 rfl) ?_
    refine va_get (D := D) (ci := 6) (v := .int mst) (C := RX6) (T := TX6) (N := 23) hx hb hts w1 hown hK hP 0 rfl rfl 0 (by decide) w2 (fun _ h9 => h9) rfl dX6_step_16 ?_
    refine lv_if_ne (tgt := 25) hx hb dX6_step_19 (by decide) (fun c4 => ?_) (fun c4 => ?_)
    · have hf := if_n c4 hf
      refine lv_aload_n hx hb dX6_step_25 rfl (lv_at hl 0 rfl) ?_
      obtain ⟨⟨o5, o6, o7⟩, hc8, hf⟩ := bd_inv hf
      refine xcV (As := []) (rest := []) (ws' := [(ma, .inr (6, [.int mst, .int mwy, .int mmk, .int mwt, .ref m1, .ref m2, .ref m3, .ref m4, .int o7, .ref m5, .ref m6, .int mln, .int mfi, .int mbe, .int mrs, .int mrw, .int mcl, .int mdo, .int mnu, .ref m7, .ref m8, .ref m9, .ref m10])), (m1, .inl (cI, 24, .inl mvl)), (m2, .inl (cI, 96, .inl mof)), (m3, .inl (cI, 168, .inl o5)), (m4, .inl (cF, 288, .inr (.inr (.inl o6)))), (m5, .inl (cZ, 2, .inl mik)), (m6, .inl (cI, 200, .inl mtx)), (m7, .inl (cI, 56, .inl mwd)), (m8, .inl (cI, 3, .inl msz)), (m9, .inl (cI, 3, .inl mso)), (m10, .inl (cI, 24, .inl mpl))]) ⟨hx, hb, hml, hown, hts⟩ (c_X6_minds l D B adK adV cC cF cI cZ cM cS ma mst mwy mmk mwt m1 m2 m3 m4 mun m5 m6 mln mfi mbe mrs mrw mcl mdo mnu m7 m8 m9 m10 mvl mof mw mf mik mtx mwd msz mso mpl  (o5, o6, o7) hc8) (cwV 0 hts gX6_step_X6_minds rfl rfl rfl (by decide +kernel) ⟨Nat.le_of_ble_eq_true rfl, Nat.le_of_ble_eq_true rfl⟩) (va_recv hK hP (ci := 6) (q0 := 0) rfl rfl) hK hP hD hS hB hE [0, 1, 2, 3, 4, 5, 6, 7, 8, 9, 10] rfl rfl rfl rfl rfl hl.1 rfl (Nat.le_of_ble_eq_true rfl) dX6_step_26 ⟨Nat.le_of_ble_eq_true rfl, Nat.le_of_ble_eq_true rfl⟩ (fun H locs hP hD hS => ?_)
      refine W.eq (g2 := F0 m 29 ls []) rfl ?_
      refine lv_iconst (v := 0) hx hb dX6_step_29 (by decide) ?_
      refine lv_istore_n (lv' := [(2, .int 0), (0, .ref ma), (1, .int cnt)]) hx hb dX6_step_30 rfl hl (by decide) rfl (fun ls hl => ?_)
      obtain ⟨⟨q13, q14, q15⟩, hq16, hf⟩ := bd_inv hf
      refine L31 1000 o7 0 o5 o6 (q13, q14, q15) hq16 H locs ls hP hD hS (lv_sub hl [0, 1, 2] rfl) (fun H locs ls hP hD hS hl => ?_)
      have hP : va_P D vwCl [(ma, .inr (6, [.int mst, .int mwy, .int mmk, .int mwt, .ref m1, .ref m2, .ref m3, .ref m4, .int o7, .ref m5, .ref m6, .int mln, .int mfi, .int mbe, .int mrs, .int mrw, .int mcl, .int mdo, .int mnu, .ref m7, .ref m8, .ref m9, .ref m10])), (m1, .inl (cI, 24, .inl mvl)), (m2, .inl (cI, 96, .inl mof)), (m3, .inl (cI, 168, .inl q14)), (m4, .inl (cF, 288, .inr (.inr (.inl q15)))), (m5, .inl (cZ, 2, .inl mik)), (m6, .inl (cI, 200, .inl mtx)), (m7, .inl (cI, 56, .inl mwd)), (m8, .inl (cI, 3, .inl msz)), (m9, .inl (cI, 3, .inl mso)), (m10, .inl (cI, 24, .inl mpl))] H := hP
      have hD : va_D A [(ma, .inr (6, [.int mst, .int mwy, .int mmk, .int mwt, .ref m1, .ref m2, .ref m3, .ref m4, .int o7, .ref m5, .ref m6, .int mln, .int mfi, .int mbe, .int mrs, .int mrw, .int mcl, .int mdo, .int mnu, .ref m7, .ref m8, .ref m9, .ref m10])), (m1, .inl (cI, 24, .inl mvl)), (m2, .inl (cI, 96, .inl mof)), (m3, .inl (cI, 168, .inl q14)), (m4, .inl (cF, 288, .inr (.inr (.inl q15)))), (m5, .inl (cZ, 2, .inl mik)), (m6, .inl (cI, 200, .inl mtx)), (m7, .inl (cI, 56, .inl mwd)), (m8, .inl (cI, 3, .inl msz)), (m9, .inl (cI, 3, .inl mso)), (m10, .inl (cI, 24, .inl mpl))] := hD
      have hl : lv_has ls 3 [(2, .int q13), (0, .ref ma), (1, .int cnt)] := hl
      refine lv_aload_n hx hb dX6_step_47 rfl (lv_at hl 1 rfl) ?_
      refine va_get (D := D) (ci := 6) (v := .ref m3) (C := RX6) (T := TX6) (N := 23) hx hb hts w1 hown hK hP 0 rfl rfl 6 (by decide) w3 (fun _ h9 => h9) rfl dX6_step_48 ?_
      refine lv_iconst (v := 0) hx hb dX6_step_51 (by decide) ?_
      refine va_iald hx hb hK hP 3 2 rfl rfl (show iok 0 168 by decide) dX6_step_52 ?_
      refine W.eq (g2 := F0 m 53 ls (.int (q14 0) :: [])) rfl ?_
      have h1 := Option.some.inj hf
      subst h1
      rw [hQ]
      exact W.iret (v := (q14 0)) hx hb hr (fun t ht hW => qEnd hP hS ht) hS.2.2 dX6_step_53
    · have hf := if_p c4 hf
      refine lv_bipush (v := (-4)) hx hb dX6_step_22 (by decide) ?_
      have h1 := Option.some.inj hf
      subst h1
      rw [hQ]
      exact W.iret (v := (-4)) hx hb hr (fun t ht hW => qEnd hP hS ht) hS.2.2 dX6_step_24
  · have hf := if_p c3 hf
    refine lv_bipush (v := (-3)) hx hb dX6_step_12 (by decide) ?_
    have h1 := Option.some.inj hf
    subst h1
    rw [hQ]
    exact W.iret (v := (-3)) hx hb hr (fun t ht hW => qEnd hP hS ht) hS.2.2 dX6_step_14
set_option maxRecDepth 100000 in
set_option maxHeartbeats 4000000 in
theorem c_X6_undo (l : Launch) (D : va_G) (B : Nat) (adK adV : Nat → Nat) (cC cF cI cZ cM cS : ClassId) (ma : Nat) (mst : Int32) (mwy : Int32) (mmk : Int32) (mwt : Int32) (m1 : Nat) (m2 : Nat) (m3 : Nat) (m4 : Nat) (mun : Int32) (m5 : Nat) (m6 : Nat) (mln : Int32) (mfi : Int32) (mbe : Int32) (mrs : Int32) (mrw : Int32) (mcl : Int32) (mdo : Int32) (mnu : Int32) (m7 : Nat) (m8 : Nat) (m9 : Nat) (m10 : Nat) (mvl : Nat → Int32) (mof : Nat → Int32) (mw : Nat → Int32) (mf : Nat → UInt32) (mik : Nat → Int32) (mtx : Nat → Int32) (mwd : Nat → Int32) (msz : Nat → Int32) (mso : Nat → Int32) (mpl : Nat → Int32) (zz : Int32 × (Nat → Int32) × (Nat → UInt32) × Int32) (hf : f_X6_undo mun mw mf = some zz) : Ct l yX6_undo wsX6_undo { frames := 1, cells := 0, slots := 0, locals := 23 } D B adK adV (tysX cC cF cI cZ cM cS) [.ref ma] [(ma, .inr (6, [.int mst, .int mwy, .int mmk, .int mwt, .ref m1, .ref m2, .ref m3, .ref m4, .int mun, .ref m5, .ref m6, .int mln, .int mfi, .int mbe, .int mrs, .int mrw, .int mcl, .int mdo, .int mnu, .ref m7, .ref m8, .ref m9, .ref m10])), (m1, .inl (cI, 24, .inl mvl)), (m2, .inl (cI, 96, .inl mof)), (m3, .inl (cI, 168, .inl mw)), (m4, .inl (cF, 288, .inr (.inr (.inl mf)))), (m5, .inl (cZ, 2, .inl mik)), (m6, .inl (cI, 200, .inl mtx)), (m7, .inl (cI, 56, .inl mwd)), (m8, .inl (cI, 3, .inl msz)), (m9, .inl (cI, 3, .inl mso)), (m10, .inl (cI, 24, .inl mpl))] [(ma, .inr (6, [.int mst, .int mwy, .int mmk, .int mwt, .ref m1, .ref m2, .ref m3, .ref m4, .int zz.2.2.2, .ref m5, .ref m6, .int mln, .int mfi, .int mbe, .int mrs, .int mrw, .int mcl, .int mdo, .int mnu, .ref m7, .ref m8, .ref m9, .ref m10])), (m1, .inl (cI, 24, .inl mvl)), (m2, .inl (cI, 96, .inl mof)), (m3, .inl (cI, 168, .inl zz.2.1)), (m4, .inl (cF, 288, .inr (.inr (.inl zz.2.2.1)))), (m5, .inl (cZ, 2, .inl mik)), (m6, .inl (cI, 200, .inl mtx)), (m7, .inl (cI, 56, .inl mwd)), (m8, .inl (cI, 3, .inl msz)), (m9, .inl (cI, 3, .inl mso)), (m10, .inl (cI, 24, .inl mpl))] (some (.int zz.1)) := by
  refine Ct.ofW (cc := cX6_undo) (maxL := 1) (ret := (some .int)) (by decide) rfl (Nat.le_of_ble_eq_true rfl) ?_
  intro p e s m args below meth c hx hb hr hml hts hown hlocks hnm hK hE A Q hQ hB H locs ls hP hD hS hl
  have hl : lv_has ls 1 [(0, .ref ma)] := hl
  have w0 : ∀ w ∈ u_ws RX6 TX6 23, w ∈ wsX6_undo := by decide +kernel
  have w1 := hts (.fieldLink RX6 49 "MotionStatesModel" "undos" "I") (by decide +kernel)
  unfold f_X6_undo at hf
  refine lv_aload_n hx hb dX6_undo_0 rfl (lv_at hl 0 rfl) ?_
  refine va_get (D := D) (ci := 6) (v := .int mun) (C := RX6) (T := TX6) (N := 23) hx hb hts w0 hown hK hP 0 rfl rfl 8 (by decide) w1 (fun _ h9 => h9) rfl dX6_undo_1 ?_
  refine lv_if_ne (tgt := 10) hx hb dX6_undo_4 (by decide) (fun c1 => ?_) (fun c1 => ?_)
  · have hf := if_n c1 hf
    refine lv_aload_n hx hb dX6_undo_10 rfl (lv_at hl 0 rfl) ?_
    refine lv_dup hx hb dX6_undo_11 rfl ?_
    refine va_get (D := D) (ci := 6) (v := .int mun) (C := RX6) (T := TX6) (N := 23) hx hb hts w0 hown hK hP 0 rfl rfl 8 (by decide) w1 (fun _ h9 => h9) rfl dX6_undo_12 ?_
    refine lv_iconst (v := 1) hx hb dX6_undo_15 (by decide) ?_
    refine lv_isub hx hb dX6_undo_16 ?_
    refine va_put (D := D) (ci := 6) (v := .int (mun - 1)) (ty := .int) (C := RX6) (T := TX6) (N := 23) hx hb hts w0 tyX6 tyX6_ok nmX6 hown hK hP hD hS 0 rfl rfl 8 (by decide) w1 (fun _ h9 => h9) rfl (by decide +kernel) rfl rfl (Nat.le_of_ble_eq_true rfl) dX6_undo_17 (fun H locs hP hD hS => ?_)
    have hP : va_P D vwCl [(ma, .inr (6, [.int mst, .int mwy, .int mmk, .int mwt, .ref m1, .ref m2, .ref m3, .ref m4, .int (mun - 1), .ref m5, .ref m6, .int mln, .int mfi, .int mbe, .int mrs, .int mrw, .int mcl, .int mdo, .int mnu, .ref m7, .ref m8, .ref m9, .ref m10])), (m1, .inl (cI, 24, .inl mvl)), (m2, .inl (cI, 96, .inl mof)), (m3, .inl (cI, 168, .inl mw)), (m4, .inl (cF, 288, .inr (.inr (.inl mf)))), (m5, .inl (cZ, 2, .inl mik)), (m6, .inl (cI, 200, .inl mtx)), (m7, .inl (cI, 56, .inl mwd)), (m8, .inl (cI, 3, .inl msz)), (m9, .inl (cI, 3, .inl mso)), (m10, .inl (cI, 24, .inl mpl))] H := hP
    have hD : va_D A [(ma, .inr (6, [.int mst, .int mwy, .int mmk, .int mwt, .ref m1, .ref m2, .ref m3, .ref m4, .int (mun - 1), .ref m5, .ref m6, .int mln, .int mfi, .int mbe, .int mrs, .int mrw, .int mcl, .int mdo, .int mnu, .ref m7, .ref m8, .ref m9, .ref m10])), (m1, .inl (cI, 24, .inl mvl)), (m2, .inl (cI, 96, .inl mof)), (m3, .inl (cI, 168, .inl mw)), (m4, .inl (cF, 288, .inr (.inr (.inl mf)))), (m5, .inl (cZ, 2, .inl mik)), (m6, .inl (cI, 200, .inl mtx)), (m7, .inl (cI, 56, .inl mwd)), (m8, .inl (cI, 3, .inl msz)), (m9, .inl (cI, 3, .inl mso)), (m10, .inl (cI, 24, .inl mpl))] := hD
    refine lv_aload_n hx hb dX6_undo_20 rfl (lv_at hl 0 rfl) ?_
    refine lv_iconst (v := 4) hx hb dX6_undo_21 (by decide) ?_
    refine lv_aload_n hx hb dX6_undo_22 rfl (lv_at hl 0 rfl) ?_
    refine va_get (D := D) (ci := 6) (v := .int (mun - 1)) (C := RX6) (T := TX6) (N := 23) hx hb hts w0 hown hK hP 0 rfl rfl 8 (by decide) w1 (fun _ h9 => h9) rfl dX6_undo_23 ?_
    refine lv_iadd hx hb dX6_undo_26 ?_
    refine lv_iconst (v := 0) hx hb dX6_undo_27 (by decide) ?_
    obtain ⟨⟨o2, o3⟩, hc4, hf⟩ := bd_inv hf
    refine xcV (As := [.int ((4 : Int32) + (mun - 1)), .int 0]) (rest := []) (ws' := [(ma, .inr (6, [.int mst, .int mwy, .int mmk, .int mwt, .ref m1, .ref m2, .ref m3, .ref m4, .int (mun - 1), .ref m5, .ref m6, .int mln, .int mfi, .int mbe, .int mrs, .int mrw, .int mcl, .int mdo, .int mnu, .ref m7, .ref m8, .ref m9, .ref m10])), (m1, .inl (cI, 24, .inl mvl)), (m2, .inl (cI, 96, .inl mof)), (m3, .inl (cI, 168, .inl o2)), (m4, .inl (cF, 288, .inr (.inr (.inl o3)))), (m5, .inl (cZ, 2, .inl mik)), (m6, .inl (cI, 200, .inl mtx)), (m7, .inl (cI, 56, .inl mwd)), (m8, .inl (cI, 3, .inl msz)), (m9, .inl (cI, 3, .inl mso)), (m10, .inl (cI, 24, .inl mpl))]) ⟨hx, hb, hml, hown, hts⟩ (c_X6_copy l D B adK adV cC cF cI cZ cM cS ma mst mwy mmk mwt m1 m2 m3 m4 (mun - 1) m5 m6 mln mfi mbe mrs mrw mcl mdo mnu m7 m8 m9 m10 mvl mof mw mf mik mtx mwd msz mso mpl ((4 : Int32) + (mun - 1)) 0  (o2, o3) hc4) (cwV 2 hts gX6_undo_X6_copy rfl rfl rfl (by decide +kernel) ⟨Nat.le_of_ble_eq_true rfl, Nat.le_of_ble_eq_true rfl⟩) (va_recv hK hP (ci := 6) (q0 := 0) rfl rfl) hK hP hD hS hB hE [0, 1, 2, 3, 4, 5, 6, 7, 8, 9, 10] rfl rfl rfl rfl rfl hl.1 rfl (Nat.le_of_ble_eq_true rfl) dX6_undo_28 ⟨Nat.le_of_ble_eq_true rfl, Nat.le_of_ble_eq_true rfl⟩ (fun H locs hP hD hS => ?_)
    refine W.eq (g2 := F0 m 31 ls []) rfl ?_
    refine lv_aload_n hx hb dX6_undo_31 rfl (lv_at hl 0 rfl) ?_
    refine va_get (D := D) (ci := 6) (v := .int (mun - 1)) (C := RX6) (T := TX6) (N := 23) hx hb hts w0 hown hK hP 0 rfl rfl 8 (by decide) w1 (fun _ h9 => h9) rfl dX6_undo_32 ?_
    have h1 := Option.some.inj hf
    subst h1
    rw [hQ]
    exact W.iret (v := (mun - 1)) hx hb hr (fun t ht hW => qEnd hP hS ht) hS.2.2 dX6_undo_35
  · have hf := if_p c1 hf
    refine lv_bipush (v := (-4)) hx hb dX6_undo_7 (by decide) ?_
    have h1 := Option.some.inj hf
    subst h1
    rw [hQ]
    exact W.iret (v := (-4)) hx hb hr (fun t ht hW => qEnd hP hS ht) hS.2.2 dX6_undo_9
set_option maxRecDepth 100000 in
set_option maxHeartbeats 4000000 in
theorem c_X6_stateNow (l : Launch) (D : va_G) (B : Nat) (adK adV : Nat → Nat) (cC cF cI cZ cM cS : ClassId) (ma : Nat) (mst : Int32) (mwy : Int32) (mmk : Int32) (mwt : Int32) (m1 : Nat) (m2 : Nat) (m3 : Nat) (m4 : Nat) (mun : Int32) (m5 : Nat) (m6 : Nat) (mln : Int32) (mfi : Int32) (mbe : Int32) (mrs : Int32) (mrw : Int32) (mcl : Int32) (mdo : Int32) (mnu : Int32) (m7 : Nat) (m8 : Nat) (m9 : Nat) (m10 : Nat) (mvl : Nat → Int32) (mof : Nat → Int32) (mw : Nat → Int32) (mf : Nat → UInt32) (mik : Nat → Int32) (mtx : Nat → Int32) (mwd : Nat → Int32) (msz : Nat → Int32) (mso : Nat → Int32) (mpl : Nat → Int32) (zz : Int32) (hf : f_X6_stateNow mst mw = some zz) : Ct l yX6_stateNow wsX6_stateNow { frames := 0, cells := 0, slots := 0, locals := 0 } D B adK adV (tysX cC cF cI cZ cM cS) [.ref ma] [(ma, .inr (6, [.int mst, .int mwy, .int mmk, .int mwt, .ref m1, .ref m2, .ref m3, .ref m4, .int mun, .ref m5, .ref m6, .int mln, .int mfi, .int mbe, .int mrs, .int mrw, .int mcl, .int mdo, .int mnu, .ref m7, .ref m8, .ref m9, .ref m10])), (m1, .inl (cI, 24, .inl mvl)), (m2, .inl (cI, 96, .inl mof)), (m3, .inl (cI, 168, .inl mw)), (m4, .inl (cF, 288, .inr (.inr (.inl mf)))), (m5, .inl (cZ, 2, .inl mik)), (m6, .inl (cI, 200, .inl mtx)), (m7, .inl (cI, 56, .inl mwd)), (m8, .inl (cI, 3, .inl msz)), (m9, .inl (cI, 3, .inl mso)), (m10, .inl (cI, 24, .inl mpl))] [(ma, .inr (6, [.int mst, .int mwy, .int mmk, .int mwt, .ref m1, .ref m2, .ref m3, .ref m4, .int mun, .ref m5, .ref m6, .int mln, .int mfi, .int mbe, .int mrs, .int mrw, .int mcl, .int mdo, .int mnu, .ref m7, .ref m8, .ref m9, .ref m10])), (m1, .inl (cI, 24, .inl mvl)), (m2, .inl (cI, 96, .inl mof)), (m3, .inl (cI, 168, .inl mw)), (m4, .inl (cF, 288, .inr (.inr (.inl mf)))), (m5, .inl (cZ, 2, .inl mik)), (m6, .inl (cI, 200, .inl mtx)), (m7, .inl (cI, 56, .inl mwd)), (m8, .inl (cI, 3, .inl msz)), (m9, .inl (cI, 3, .inl mso)), (m10, .inl (cI, 24, .inl mpl))] (some (.int zz)) := by
  refine Ct.ofW (cc := cX6_stateNow) (maxL := 1) (ret := (some .int)) (by decide) rfl (Nat.le_of_ble_eq_true rfl) ?_
  intro p e s m args below meth c hx hb hr hml hts hown hlocks hnm hK hE A Q hQ hB H locs ls hP hD hS hl
  have hl : lv_has ls 1 [(0, .ref ma)] := hl
  have w0 : ∀ w ∈ u_ws RX6 TX6 23, w ∈ wsX6_stateNow := by decide +kernel
  have w1 := hts (.fieldLink RX6 144 "MotionStatesModel" "states" "I") (by decide +kernel)
  have w2 := hts (.fieldLink RX6 20 "MotionStatesModel" "w" "[I") (by decide +kernel)
  unfold f_X6_stateNow at hf
  refine lv_aload_n hx hb dX6_stateNow_0 rfl (lv_at hl 0 rfl) ?_
  refine va_get (D := D) (ci := 6) (v := .int mst) (C := RX6) (T := TX6) (N := 23) hx hb hts w0 hown hK hP 0 rfl rfl 0 (by decide) w1 (fun _ h9 => h9) rfl dX6_stateNow_1 ?_
  refine lv_if_ne (tgt := 11) hx hb dX6_stateNow_4 (by decide) (fun c1 => ?_) (fun c1 => ?_)
  · have hf := if_n c1 hf
    refine lv_aload_n hx hb dX6_stateNow_11 rfl (lv_at hl 0 rfl) ?_
    refine va_get (D := D) (ci := 6) (v := .ref m3) (C := RX6) (T := TX6) (N := 23) hx hb hts w0 hown hK hP 0 rfl rfl 6 (by decide) w2 (fun _ h9 => h9) rfl dX6_stateNow_12 ?_
    refine lv_iconst (v := 0) hx hb dX6_stateNow_15 (by decide) ?_
    refine va_iald hx hb hK hP 3 2 rfl rfl (show iok 0 168 by decide) dX6_stateNow_16 ?_
    refine W.eq (g2 := F0 m 17 ls (.int (mw 0) :: [])) rfl ?_
    have h1 := Option.some.inj hf
    subst h1
    rw [hQ]
    exact W.iret (v := (mw 0)) hx hb hr (fun t ht hW => qEnd hP hS ht) hS.2.2 dX6_stateNow_17
  · have hf := if_p c1 hf
    refine lv_iconst (v := (-1)) hx hb dX6_stateNow_7 (by decide) ?_
    refine lv_goto (tgt := 17) hx hb dX6_stateNow_8 (by decide) ?_
    have h1 := Option.some.inj hf
    subst h1
    rw [hQ]
    exact W.iret (v := (-1)) hx hb hr (fun t ht hW => qEnd hP hS ht) hS.2.2 dX6_stateNow_17
set_option maxRecDepth 100000 in
set_option maxHeartbeats 4000000 in
theorem c_X6_keep (l : Launch) (D : va_G) (B : Nat) (adK adV : Nat → Nat) (cC cF cI cZ cM cS : ClassId) (ma : Nat) (mst : Int32) (mwy : Int32) (mmk : Int32) (mwt : Int32) (m1 : Nat) (m2 : Nat) (m3 : Nat) (m4 : Nat) (mun : Int32) (m5 : Nat) (m6 : Nat) (mln : Int32) (mfi : Int32) (mbe : Int32) (mrs : Int32) (mrw : Int32) (mcl : Int32) (mdo : Int32) (mnu : Int32) (m7 : Nat) (m8 : Nat) (m9 : Nat) (m10 : Nat) (mvl : Nat → Int32) (mof : Nat → Int32) (mw : Nat → Int32) (mf : Nat → UInt32) (mik : Nat → Int32) (mtx : Nat → Int32) (mwd : Nat → Int32) (msz : Nat → Int32) (mso : Nat → Int32) (mpl : Nat → Int32) (k : Int32) (zz : Int32 × (Nat → Int32) × (Nat → UInt32) × (Nat → Int32)) (hf : f_X6_keep mst mw mf mik k = some zz) : Ct l yX6_keep wsX6_keep { frames := 1, cells := 0, slots := 0, locals := 25 } D B adK adV (tysX cC cF cI cZ cM cS) [.ref ma, .int k] [(ma, .inr (6, [.int mst, .int mwy, .int mmk, .int mwt, .ref m1, .ref m2, .ref m3, .ref m4, .int mun, .ref m5, .ref m6, .int mln, .int mfi, .int mbe, .int mrs, .int mrw, .int mcl, .int mdo, .int mnu, .ref m7, .ref m8, .ref m9, .ref m10])), (m1, .inl (cI, 24, .inl mvl)), (m2, .inl (cI, 96, .inl mof)), (m3, .inl (cI, 168, .inl mw)), (m4, .inl (cF, 288, .inr (.inr (.inl mf)))), (m5, .inl (cZ, 2, .inl mik)), (m6, .inl (cI, 200, .inl mtx)), (m7, .inl (cI, 56, .inl mwd)), (m8, .inl (cI, 3, .inl msz)), (m9, .inl (cI, 3, .inl mso)), (m10, .inl (cI, 24, .inl mpl))] [(ma, .inr (6, [.int mst, .int mwy, .int mmk, .int mwt, .ref m1, .ref m2, .ref m3, .ref m4, .int mun, .ref m5, .ref m6, .int mln, .int mfi, .int mbe, .int mrs, .int mrw, .int mcl, .int mdo, .int mnu, .ref m7, .ref m8, .ref m9, .ref m10])), (m1, .inl (cI, 24, .inl mvl)), (m2, .inl (cI, 96, .inl mof)), (m3, .inl (cI, 168, .inl zz.2.1)), (m4, .inl (cF, 288, .inr (.inr (.inl zz.2.2.1)))), (m5, .inl (cZ, 2, .inl zz.2.2.2)), (m6, .inl (cI, 200, .inl mtx)), (m7, .inl (cI, 56, .inl mwd)), (m8, .inl (cI, 3, .inl msz)), (m9, .inl (cI, 3, .inl mso)), (m10, .inl (cI, 24, .inl mpl))] (some (.int zz.1)) := by
  refine Ct.ofW (cc := cX6_keep) (maxL := 2) (ret := (some .int)) (by decide) rfl (Nat.le_of_ble_eq_true rfl) ?_
  intro p e s m args below meth c hx hb hr hml hts hown hlocks hnm hK hE A Q hQ hB H locs ls hP hD hS hl
  have hl : lv_has ls 2 [(0, .ref ma), (1, .int k)] := hl
  have w0 : ∀ w ∈ u_ws RX6 TX6 23, w ∈ wsX6_keep := by decide +kernel
  have w1 := hts (.fieldLink RX6 27 "MotionStatesModel" "isKept" "[Z") (by decide +kernel)
  unfold f_X6_keep at hf
  refine lv_iload_n hx hb dX6_keep_0 rfl (lv_at hl 1 rfl) ?_
  refine lv_i2l hx hb dX6_keep_1 rfl ?_
  refine lv_lconst (v := 0) hx hb dX6_keep_2 (by decide) ?_
  refine lv_lconst (v := 1) hx hb dX6_keep_3 (by decide) ?_
  obtain ⟨r1, hc2, hf⟩ := bd_inv hf
  refine xcS (As := [.long (k.toInt64), .long 0, .long 1]) (rest := []) (ws' := [(ma, .inr (6, [.int mst, .int mwy, .int mmk, .int mwt, .ref m1, .ref m2, .ref m3, .ref m4, .int mun, .ref m5, .ref m6, .int mln, .int mfi, .int mbe, .int mrs, .int mrw, .int mcl, .int mdo, .int mnu, .ref m7, .ref m8, .ref m9, .ref m10])), (m1, .inl (cI, 24, .inl mvl)), (m2, .inl (cI, 96, .inl mof)), (m3, .inl (cI, 168, .inl mw)), (m4, .inl (cF, 288, .inr (.inr (.inl mf)))), (m5, .inl (cZ, 2, .inl mik)), (m6, .inl (cI, 200, .inl mtx)), (m7, .inl (cI, 56, .inl mwd)), (m8, .inl (cI, 3, .inl msz)), (m9, .inl (cI, 3, .inl mso)), (m10, .inl (cI, 24, .inl mpl))]) ⟨hx, hb, hml, hown, hts⟩ (c_X6_in l D B adK adV cC cF cI cZ cM cS (k.toInt64) 0 1  r1 hc2) (va_cwS 3 hts gX6_keep_X6_in rfl rfl rfl (by decide +kernel) ⟨Nat.le_of_ble_eq_true rfl, Nat.le_of_ble_eq_true rfl⟩) hK hP hD hS hB hE [] rfl rfl rfl rfl rfl hl.1 rfl (Nat.le_of_ble_eq_true rfl) dX6_keep_4 ⟨Nat.le_of_ble_eq_true rfl, Nat.le_of_ble_eq_true rfl⟩ (fun H locs hP hD hS => ?_)
  refine W.eq (g2 := F0 m 7 ls [.int r1]) rfl ?_
  refine lv_if_ne (tgt := 13) hx hb dX6_keep_7 (by decide) (fun c3 => ?_) (fun c3 => ?_)
  · have hf := if_n c3 hf
    refine lv_aload_n hx hb dX6_keep_13 rfl (lv_at hl 0 rfl) ?_
    refine lv_iconst (v := 0) hx hb dX6_keep_14 (by decide) ?_
    refine lv_iconst (v := 2) hx hb dX6_keep_15 (by decide) ?_
    refine lv_iload_n hx hb dX6_keep_16 rfl (lv_at hl 1 rfl) ?_
    refine lv_iadd hx hb dX6_keep_17 ?_
    obtain ⟨⟨o4, o5⟩, hc6, hf⟩ := bd_inv hf
    refine xcV (As := [.int 0, .int ((2 : Int32) + k)]) (rest := []) (ws' := [(ma, .inr (6, [.int mst, .int mwy, .int mmk, .int mwt, .ref m1, .ref m2, .ref m3, .ref m4, .int mun, .ref m5, .ref m6, .int mln, .int mfi, .int mbe, .int mrs, .int mrw, .int mcl, .int mdo, .int mnu, .ref m7, .ref m8, .ref m9, .ref m10])), (m1, .inl (cI, 24, .inl mvl)), (m2, .inl (cI, 96, .inl mof)), (m3, .inl (cI, 168, .inl o4)), (m4, .inl (cF, 288, .inr (.inr (.inl o5)))), (m5, .inl (cZ, 2, .inl mik)), (m6, .inl (cI, 200, .inl mtx)), (m7, .inl (cI, 56, .inl mwd)), (m8, .inl (cI, 3, .inl msz)), (m9, .inl (cI, 3, .inl mso)), (m10, .inl (cI, 24, .inl mpl))]) ⟨hx, hb, hml, hown, hts⟩ (c_X6_copy l D B adK adV cC cF cI cZ cM cS ma mst mwy mmk mwt m1 m2 m3 m4 mun m5 m6 mln mfi mbe mrs mrw mcl mdo mnu m7 m8 m9 m10 mvl mof mw mf mik mtx mwd msz mso mpl 0 ((2 : Int32) + k)  (o4, o5) hc6) (cwV 2 hts gX6_keep_X6_copy rfl rfl rfl (by decide +kernel) ⟨Nat.le_of_ble_eq_true rfl, Nat.le_of_ble_eq_true rfl⟩) (va_recv hK hP (ci := 6) (q0 := 0) rfl rfl) hK hP hD hS hB hE [0, 1, 2, 3, 4, 5, 6, 7, 8, 9, 10] rfl rfl rfl rfl rfl hl.1 rfl (Nat.le_of_ble_eq_true rfl) dX6_keep_18 ⟨Nat.le_of_ble_eq_true rfl, Nat.le_of_ble_eq_true rfl⟩ (fun H locs hP hD hS => ?_)
    refine W.eq (g2 := F0 m 21 ls []) rfl ?_
    refine lv_aload_n hx hb dX6_keep_21 rfl (lv_at hl 0 rfl) ?_
    refine va_get (D := D) (ci := 6) (v := .ref m5) (C := RX6) (T := TX6) (N := 23) hx hb hts w0 hown hK hP 0 rfl rfl 9 (by decide) w1 (fun _ h9 => h9) rfl dX6_keep_22 ?_
    refine lv_iload_n hx hb dX6_keep_25 rfl (lv_at hl 1 rfl) ?_
    refine lv_iconst (v := 1) hx hb dX6_keep_26 (by decide) ?_
    obtain ⟨g7, hf⟩ := gd_inv hf
    refine va_zast hx hb hK hP hD hS 5 3 rfl rfl g7 dX6_keep_27 (fun H locs hP hD hS => ?_)
    have hP : va_P D vwCl [(ma, .inr (6, [.int mst, .int mwy, .int mmk, .int mwt, .ref m1, .ref m2, .ref m3, .ref m4, .int mun, .ref m5, .ref m6, .int mln, .int mfi, .int mbe, .int mrs, .int mrw, .int mcl, .int mdo, .int mnu, .ref m7, .ref m8, .ref m9, .ref m10])), (m1, .inl (cI, 24, .inl mvl)), (m2, .inl (cI, 96, .inl mof)), (m3, .inl (cI, 168, .inl o4)), (m4, .inl (cF, 288, .inr (.inr (.inl o5)))), (m5, .inl (cZ, 2, .inl (upd mik k.toNatClampNeg (vp_nar .boolean 1)))), (m6, .inl (cI, 200, .inl mtx)), (m7, .inl (cI, 56, .inl mwd)), (m8, .inl (cI, 3, .inl msz)), (m9, .inl (cI, 3, .inl mso)), (m10, .inl (cI, 24, .inl mpl))] H := hP
    have hD : va_D A [(ma, .inr (6, [.int mst, .int mwy, .int mmk, .int mwt, .ref m1, .ref m2, .ref m3, .ref m4, .int mun, .ref m5, .ref m6, .int mln, .int mfi, .int mbe, .int mrs, .int mrw, .int mcl, .int mdo, .int mnu, .ref m7, .ref m8, .ref m9, .ref m10])), (m1, .inl (cI, 24, .inl mvl)), (m2, .inl (cI, 96, .inl mof)), (m3, .inl (cI, 168, .inl o4)), (m4, .inl (cF, 288, .inr (.inr (.inl o5)))), (m5, .inl (cZ, 2, .inl (upd mik k.toNatClampNeg (vp_nar .boolean 1)))), (m6, .inl (cI, 200, .inl mtx)), (m7, .inl (cI, 56, .inl mwd)), (m8, .inl (cI, 3, .inl msz)), (m9, .inl (cI, 3, .inl mso)), (m10, .inl (cI, 24, .inl mpl))] := hD
    refine lv_aload_n hx hb dX6_keep_28 rfl (lv_at hl 0 rfl) ?_
    obtain ⟨r8, hc9, hf⟩ := bd_inv hf
    refine xcV (As := []) (rest := []) (ws' := [(ma, .inr (6, [.int mst, .int mwy, .int mmk, .int mwt, .ref m1, .ref m2, .ref m3, .ref m4, .int mun, .ref m5, .ref m6, .int mln, .int mfi, .int mbe, .int mrs, .int mrw, .int mcl, .int mdo, .int mnu, .ref m7, .ref m8, .ref m9, .ref m10])), (m1, .inl (cI, 24, .inl mvl)), (m2, .inl (cI, 96, .inl mof)), (m3, .inl (cI, 168, .inl o4)), (m4, .inl (cF, 288, .inr (.inr (.inl o5)))), (m5, .inl (cZ, 2, .inl (upd mik k.toNatClampNeg (vp_nar .boolean 1)))), (m6, .inl (cI, 200, .inl mtx)), (m7, .inl (cI, 56, .inl mwd)), (m8, .inl (cI, 3, .inl msz)), (m9, .inl (cI, 3, .inl mso)), (m10, .inl (cI, 24, .inl mpl))]) ⟨hx, hb, hml, hown, hts⟩ (c_X6_stateNow l D B adK adV cC cF cI cZ cM cS ma mst mwy mmk mwt m1 m2 m3 m4 mun m5 m6 mln mfi mbe mrs mrw mcl mdo mnu m7 m8 m9 m10 mvl mof o4 o5 (upd mik k.toNatClampNeg (vp_nar .boolean 1)) mtx mwd msz mso mpl  r8 hc9) (cwV 0 hts gX6_keep_X6_stateNow rfl rfl rfl (by decide +kernel) ⟨Nat.le_of_ble_eq_true rfl, Nat.le_of_ble_eq_true rfl⟩) (va_recv hK hP (ci := 6) (q0 := 0) rfl rfl) hK hP hD hS hB hE [0, 1, 2, 3, 4, 5, 6, 7, 8, 9, 10] rfl rfl rfl rfl rfl hl.1 rfl (Nat.le_of_ble_eq_true rfl) dX6_keep_29 ⟨Nat.le_of_ble_eq_true rfl, Nat.le_of_ble_eq_true rfl⟩ (fun H locs hP hD hS => ?_)
    refine W.eq (g2 := F0 m 32 ls [.int r8]) rfl ?_
    have h1 := Option.some.inj hf
    subst h1
    rw [hQ]
    exact W.iret (v := r8) hx hb hr (fun t ht hW => qEnd hP hS ht) hS.2.2 dX6_keep_32
  · have hf := if_p c3 hf
    refine lv_bipush (v := (-2)) hx hb dX6_keep_10 (by decide) ?_
    have h1 := Option.some.inj hf
    subst h1
    rw [hQ]
    exact W.iret (v := (-2)) hx hb hr (fun t ht hW => qEnd hP hS ht) hS.2.2 dX6_keep_12
set_option maxRecDepth 100000 in
set_option maxHeartbeats 4000000 in
theorem c_X6_back (l : Launch) (D : va_G) (B : Nat) (adK adV : Nat → Nat) (cC cF cI cZ cM cS : ClassId) (ma : Nat) (mst : Int32) (mwy : Int32) (mmk : Int32) (mwt : Int32) (m1 : Nat) (m2 : Nat) (m3 : Nat) (m4 : Nat) (mun : Int32) (m5 : Nat) (m6 : Nat) (mln : Int32) (mfi : Int32) (mbe : Int32) (mrs : Int32) (mrw : Int32) (mcl : Int32) (mdo : Int32) (mnu : Int32) (m7 : Nat) (m8 : Nat) (m9 : Nat) (m10 : Nat) (mvl : Nat → Int32) (mof : Nat → Int32) (mw : Nat → Int32) (mf : Nat → UInt32) (mik : Nat → Int32) (mtx : Nat → Int32) (mwd : Nat → Int32) (msz : Nat → Int32) (mso : Nat → Int32) (mpl : Nat → Int32) (k : Int32) (zz : Int32 × (Nat → Int32) × (Nat → UInt32) × Int32) (hf : f_X6_back mst mun mw mf mik k = some zz) : Ct l yX6_back wsX6_back { frames := 1, cells := 0, slots := 0, locals := 25 } D B adK adV (tysX cC cF cI cZ cM cS) [.ref ma, .int k] [(ma, .inr (6, [.int mst, .int mwy, .int mmk, .int mwt, .ref m1, .ref m2, .ref m3, .ref m4, .int mun, .ref m5, .ref m6, .int mln, .int mfi, .int mbe, .int mrs, .int mrw, .int mcl, .int mdo, .int mnu, .ref m7, .ref m8, .ref m9, .ref m10])), (m1, .inl (cI, 24, .inl mvl)), (m2, .inl (cI, 96, .inl mof)), (m3, .inl (cI, 168, .inl mw)), (m4, .inl (cF, 288, .inr (.inr (.inl mf)))), (m5, .inl (cZ, 2, .inl mik)), (m6, .inl (cI, 200, .inl mtx)), (m7, .inl (cI, 56, .inl mwd)), (m8, .inl (cI, 3, .inl msz)), (m9, .inl (cI, 3, .inl mso)), (m10, .inl (cI, 24, .inl mpl))] [(ma, .inr (6, [.int mst, .int mwy, .int mmk, .int mwt, .ref m1, .ref m2, .ref m3, .ref m4, .int zz.2.2.2, .ref m5, .ref m6, .int mln, .int mfi, .int mbe, .int mrs, .int mrw, .int mcl, .int mdo, .int mnu, .ref m7, .ref m8, .ref m9, .ref m10])), (m1, .inl (cI, 24, .inl mvl)), (m2, .inl (cI, 96, .inl mof)), (m3, .inl (cI, 168, .inl zz.2.1)), (m4, .inl (cF, 288, .inr (.inr (.inl zz.2.2.1)))), (m5, .inl (cZ, 2, .inl mik)), (m6, .inl (cI, 200, .inl mtx)), (m7, .inl (cI, 56, .inl mwd)), (m8, .inl (cI, 3, .inl msz)), (m9, .inl (cI, 3, .inl mso)), (m10, .inl (cI, 24, .inl mpl))] (some (.int zz.1)) := by
  refine Ct.ofW (cc := cX6_back) (maxL := 2) (ret := (some .int)) (by decide) rfl (Nat.le_of_ble_eq_true rfl) ?_
  intro p e s m args below meth c hx hb hr hml hts hown hlocks hnm hK hE A Q hQ hB H locs ls hP hD hS hl
  have hl : lv_has ls 2 [(0, .ref ma), (1, .int k)] := hl
  have w0 : ∀ w ∈ u_ws RX6 TX6 23, w ∈ wsX6_back := by decide +kernel
  have w1 := hts (.fieldLink RX6 27 "MotionStatesModel" "isKept" "[Z") (by decide +kernel)
  have w2 := hts (.fieldLink RX6 49 "MotionStatesModel" "undos" "I") (by decide +kernel)
  unfold f_X6_back at hf
  refine lv_iload_n hx hb dX6_back_0 rfl (lv_at hl 1 rfl) ?_
  refine lv_i2l hx hb dX6_back_1 rfl ?_
  refine lv_lconst (v := 0) hx hb dX6_back_2 (by decide) ?_
  refine lv_lconst (v := 1) hx hb dX6_back_3 (by decide) ?_
  obtain ⟨r1, hc2, hf⟩ := bd_inv hf
  refine xcS (As := [.long (k.toInt64), .long 0, .long 1]) (rest := []) (ws' := [(ma, .inr (6, [.int mst, .int mwy, .int mmk, .int mwt, .ref m1, .ref m2, .ref m3, .ref m4, .int mun, .ref m5, .ref m6, .int mln, .int mfi, .int mbe, .int mrs, .int mrw, .int mcl, .int mdo, .int mnu, .ref m7, .ref m8, .ref m9, .ref m10])), (m1, .inl (cI, 24, .inl mvl)), (m2, .inl (cI, 96, .inl mof)), (m3, .inl (cI, 168, .inl mw)), (m4, .inl (cF, 288, .inr (.inr (.inl mf)))), (m5, .inl (cZ, 2, .inl mik)), (m6, .inl (cI, 200, .inl mtx)), (m7, .inl (cI, 56, .inl mwd)), (m8, .inl (cI, 3, .inl msz)), (m9, .inl (cI, 3, .inl mso)), (m10, .inl (cI, 24, .inl mpl))]) ⟨hx, hb, hml, hown, hts⟩ (c_X6_in l D B adK adV cC cF cI cZ cM cS (k.toInt64) 0 1  r1 hc2) (va_cwS 3 hts gX6_back_X6_in rfl rfl rfl (by decide +kernel) ⟨Nat.le_of_ble_eq_true rfl, Nat.le_of_ble_eq_true rfl⟩) hK hP hD hS hB hE [] rfl rfl rfl rfl rfl hl.1 rfl (Nat.le_of_ble_eq_true rfl) dX6_back_4 ⟨Nat.le_of_ble_eq_true rfl, Nat.le_of_ble_eq_true rfl⟩ (fun H locs hP hD hS => ?_)
  refine W.eq (g2 := F0 m 7 ls [.int r1]) rfl ?_
  refine lv_if_ne (tgt := 13) hx hb dX6_back_7 (by decide) (fun c3 => ?_) (fun c3 => ?_)
  · have hf := if_n c3 hf
    refine lv_aload_n hx hb dX6_back_13 rfl (lv_at hl 0 rfl) ?_
    refine va_get (D := D) (ci := 6) (v := .ref m5) (C := RX6) (T := TX6) (N := 23) hx hb hts w0 hown hK hP 0 rfl rfl 9 (by decide) w1 (fun _ h9 => h9) rfl dX6_back_14 ?_
    refine lv_iload_n hx hb dX6_back_17 rfl (lv_at hl 1 rfl) ?_
    obtain ⟨g4, hf⟩ := gd_inv hf
    refine va_zald hx hb hK hP 5 3 rfl rfl g4 dX6_back_18 ?_
    refine lv_if_ne (tgt := 25) hx hb dX6_back_19 (by decide) (fun c5 => ?_) (fun c5 => ?_)
    · have hf := if_n c5 hf
      refine lv_aload_n hx hb dX6_back_25 rfl (lv_at hl 0 rfl) ?_
      refine lv_iconst (v := 2) hx hb dX6_back_26 (by decide) ?_
      refine lv_iload_n hx hb dX6_back_27 rfl (lv_at hl 1 rfl) ?_
      refine lv_iadd hx hb dX6_back_28 ?_
      refine lv_iconst (v := 0) hx hb dX6_back_29 (by decide) ?_
      obtain ⟨⟨o6, o7⟩, hc8, hf⟩ := bd_inv hf
      refine xcV (As := [.int ((2 : Int32) + k), .int 0]) (rest := []) (ws' := [(ma, .inr (6, [.int mst, .int mwy, .int mmk, .int mwt, .ref m1, .ref m2, .ref m3, .ref m4, .int mun, .ref m5, .ref m6, .int mln, .int mfi, .int mbe, .int mrs, .int mrw, .int mcl, .int mdo, .int mnu, .ref m7, .ref m8, .ref m9, .ref m10])), (m1, .inl (cI, 24, .inl mvl)), (m2, .inl (cI, 96, .inl mof)), (m3, .inl (cI, 168, .inl o6)), (m4, .inl (cF, 288, .inr (.inr (.inl o7)))), (m5, .inl (cZ, 2, .inl mik)), (m6, .inl (cI, 200, .inl mtx)), (m7, .inl (cI, 56, .inl mwd)), (m8, .inl (cI, 3, .inl msz)), (m9, .inl (cI, 3, .inl mso)), (m10, .inl (cI, 24, .inl mpl))]) ⟨hx, hb, hml, hown, hts⟩ (c_X6_copy l D B adK adV cC cF cI cZ cM cS ma mst mwy mmk mwt m1 m2 m3 m4 mun m5 m6 mln mfi mbe mrs mrw mcl mdo mnu m7 m8 m9 m10 mvl mof mw mf mik mtx mwd msz mso mpl ((2 : Int32) + k) 0  (o6, o7) hc8) (cwV 2 hts gX6_back_X6_copy rfl rfl rfl (by decide +kernel) ⟨Nat.le_of_ble_eq_true rfl, Nat.le_of_ble_eq_true rfl⟩) (va_recv hK hP (ci := 6) (q0 := 0) rfl rfl) hK hP hD hS hB hE [0, 1, 2, 3, 4, 5, 6, 7, 8, 9, 10] rfl rfl rfl rfl rfl hl.1 rfl (Nat.le_of_ble_eq_true rfl) dX6_back_30 ⟨Nat.le_of_ble_eq_true rfl, Nat.le_of_ble_eq_true rfl⟩ (fun H locs hP hD hS => ?_)
      refine W.eq (g2 := F0 m 33 ls []) rfl ?_
      refine lv_aload_n hx hb dX6_back_33 rfl (lv_at hl 0 rfl) ?_
      refine lv_iconst (v := 0) hx hb dX6_back_34 (by decide) ?_
      refine va_put (D := D) (ci := 6) (v := .int 0) (ty := .int) (C := RX6) (T := TX6) (N := 23) hx hb hts w0 tyX6 tyX6_ok nmX6 hown hK hP hD hS 0 rfl rfl 8 (by decide) w2 (fun _ h9 => h9) rfl (by decide +kernel) rfl rfl (Nat.le_of_ble_eq_true rfl) dX6_back_35 (fun H locs hP hD hS => ?_)
      have hP : va_P D vwCl [(ma, .inr (6, [.int mst, .int mwy, .int mmk, .int mwt, .ref m1, .ref m2, .ref m3, .ref m4, .int 0, .ref m5, .ref m6, .int mln, .int mfi, .int mbe, .int mrs, .int mrw, .int mcl, .int mdo, .int mnu, .ref m7, .ref m8, .ref m9, .ref m10])), (m1, .inl (cI, 24, .inl mvl)), (m2, .inl (cI, 96, .inl mof)), (m3, .inl (cI, 168, .inl o6)), (m4, .inl (cF, 288, .inr (.inr (.inl o7)))), (m5, .inl (cZ, 2, .inl mik)), (m6, .inl (cI, 200, .inl mtx)), (m7, .inl (cI, 56, .inl mwd)), (m8, .inl (cI, 3, .inl msz)), (m9, .inl (cI, 3, .inl mso)), (m10, .inl (cI, 24, .inl mpl))] H := hP
      have hD : va_D A [(ma, .inr (6, [.int mst, .int mwy, .int mmk, .int mwt, .ref m1, .ref m2, .ref m3, .ref m4, .int 0, .ref m5, .ref m6, .int mln, .int mfi, .int mbe, .int mrs, .int mrw, .int mcl, .int mdo, .int mnu, .ref m7, .ref m8, .ref m9, .ref m10])), (m1, .inl (cI, 24, .inl mvl)), (m2, .inl (cI, 96, .inl mof)), (m3, .inl (cI, 168, .inl o6)), (m4, .inl (cF, 288, .inr (.inr (.inl o7)))), (m5, .inl (cZ, 2, .inl mik)), (m6, .inl (cI, 200, .inl mtx)), (m7, .inl (cI, 56, .inl mwd)), (m8, .inl (cI, 3, .inl msz)), (m9, .inl (cI, 3, .inl mso)), (m10, .inl (cI, 24, .inl mpl))] := hD
      refine lv_aload_n hx hb dX6_back_38 rfl (lv_at hl 0 rfl) ?_
      obtain ⟨r9, hc10, hf⟩ := bd_inv hf
      refine xcV (As := []) (rest := []) (ws' := [(ma, .inr (6, [.int mst, .int mwy, .int mmk, .int mwt, .ref m1, .ref m2, .ref m3, .ref m4, .int 0, .ref m5, .ref m6, .int mln, .int mfi, .int mbe, .int mrs, .int mrw, .int mcl, .int mdo, .int mnu, .ref m7, .ref m8, .ref m9, .ref m10])), (m1, .inl (cI, 24, .inl mvl)), (m2, .inl (cI, 96, .inl mof)), (m3, .inl (cI, 168, .inl o6)), (m4, .inl (cF, 288, .inr (.inr (.inl o7)))), (m5, .inl (cZ, 2, .inl mik)), (m6, .inl (cI, 200, .inl mtx)), (m7, .inl (cI, 56, .inl mwd)), (m8, .inl (cI, 3, .inl msz)), (m9, .inl (cI, 3, .inl mso)), (m10, .inl (cI, 24, .inl mpl))]) ⟨hx, hb, hml, hown, hts⟩ (c_X6_stateNow l D B adK adV cC cF cI cZ cM cS ma mst mwy mmk mwt m1 m2 m3 m4 0 m5 m6 mln mfi mbe mrs mrw mcl mdo mnu m7 m8 m9 m10 mvl mof o6 o7 mik mtx mwd msz mso mpl  r9 hc10) (cwV 0 hts gX6_back_X6_stateNow rfl rfl rfl (by decide +kernel) ⟨Nat.le_of_ble_eq_true rfl, Nat.le_of_ble_eq_true rfl⟩) (va_recv hK hP (ci := 6) (q0 := 0) rfl rfl) hK hP hD hS hB hE [0, 1, 2, 3, 4, 5, 6, 7, 8, 9, 10] rfl rfl rfl rfl rfl hl.1 rfl (Nat.le_of_ble_eq_true rfl) dX6_back_39 ⟨Nat.le_of_ble_eq_true rfl, Nat.le_of_ble_eq_true rfl⟩ (fun H locs hP hD hS => ?_)
      refine W.eq (g2 := F0 m 42 ls [.int r9]) rfl ?_
      have h1 := Option.some.inj hf
      subst h1
      rw [hQ]
      exact W.iret (v := r9) hx hb hr (fun t ht hW => qEnd hP hS ht) hS.2.2 dX6_back_42
    · have hf := if_p c5 hf
      refine lv_bipush (v := (-4)) hx hb dX6_back_22 (by decide) ?_
      have h1 := Option.some.inj hf
      subst h1
      rw [hQ]
      exact W.iret (v := (-4)) hx hb hr (fun t ht hW => qEnd hP hS ht) hS.2.2 dX6_back_24
  · have hf := if_p c3 hf
    refine lv_bipush (v := (-2)) hx hb dX6_back_10 (by decide) ?_
    have h1 := Option.some.inj hf
    subst h1
    rw [hQ]
    exact W.iret (v := (-2)) hx hb hr (fun t ht hW => qEnd hP hS ht) hS.2.2 dX6_back_12
