set_option maxRecDepth 100000 in
set_option maxHeartbeats 4000000 in
theorem c_X3_makeNew (l : Launch) (D : va_G) (B : Nat) (adK adV : Nat → Nat) (cC cF cI cZ cM cS : ClassId) (sa : Nat) (sms : Int32) (smf : Int32) (spl : Int32) (sb : Nat) (smk : Nat → Int32) (so : Int32) (cnt : Int32) (zz : (Nat → Int32) × Int32 × Int32 × Int32) (hf : f_X3_makeNew smk so cnt = some zz) : Ct l yX3_makeNew wsX3_makeNew { frames := 1, cells := 0, slots := 0, locals := 23 } D B adK adV (tysX cC cF cI cZ cM cS) [.ref sa, .int so, .int cnt] [(sa, .inr (3, [.int sms, .int smf, .int spl, .ref sb])), (sb, .inl (cI, 8, .inl smk))] [(sa, .inr (3, [.int zz.2.1, .int zz.2.2.1, .int zz.2.2.2, .ref sb])), (sb, .inl (cI, 8, .inl zz.1))] none := by
  refine Ct.ofW (cc := cX3_makeNew) (maxL := 3) (ret := none) (by decide) rfl (Nat.le_of_ble_eq_true rfl) ?_
  intro p e s m args below meth c hx hb hr hml hts hown hlocks hnm hK hE A Q hQ hB H locs ls hP hD hS hl
  have hl : lv_has ls 3 [(0, .ref sa), (1, .int so), (2, .int cnt)] := hl
  have w0 : ∀ w ∈ u_ws RX3 TX3 4, w ∈ wsX3_makeNew := by decide +kernel
  have w1 := hts (.fieldLink RX3 9 "MotionStates$Shelf" "isMissing" "Z") (by decide +kernel)
  have w2 := hts (.fieldLink RX3 19 "MotionStates$Shelf" "madeFor" "I") (by decide +kernel)
  have w3 := hts (.fieldLink RX3 23 "MotionStates$Shelf" "places" "I") (by decide +kernel)
  have w4 := hts (.fieldLink RX3 15 "MotionStates$Shelf" "marks" "[I") (by decide +kernel)
  unfold f_X3_makeNew at hf
  refine lv_aload_n hx hb dX3_makeNew_0 rfl (lv_at hl 0 rfl) ?_
  refine lv_iconst (v := 0) hx hb dX3_makeNew_1 (by decide) ?_
  refine va_put (D := D) (ci := 3) (v := .int 0) (ty := .boolean) (C := RX3) (T := TX3) (N := 4) hx hb hts w0 tyX3 tyX3_ok nmX3 hown hK hP hD hS 0 rfl rfl 0 (by decide) w1 (fun _ h9 => h9) rfl (by decide +kernel) rfl rfl (Nat.le_of_ble_eq_true rfl) dX3_makeNew_2 (fun H locs hP hD hS => ?_)
  have hP : va_P D vwCl [(sa, .inr (3, [.int 0, .int smf, .int spl, .ref sb])), (sb, .inl (cI, 8, .inl smk))] H := hP
  have hD : va_D A [(sa, .inr (3, [.int 0, .int smf, .int spl, .ref sb])), (sb, .inl (cI, 8, .inl smk))] := hD
  refine lv_aload_n hx hb dX3_makeNew_5 rfl (lv_at hl 0 rfl) ?_
  refine lv_iload_n hx hb dX3_makeNew_6 rfl (lv_at hl 1 rfl) ?_
  refine va_put (D := D) (ci := 3) (v := .int so) (ty := .int) (C := RX3) (T := TX3) (N := 4) hx hb hts w0 tyX3 tyX3_ok nmX3 hown hK hP hD hS 0 rfl rfl 1 (by decide) w2 (fun _ h9 => h9) rfl (by decide +kernel) rfl rfl (Nat.le_of_ble_eq_true rfl) dX3_makeNew_7 (fun H locs hP hD hS => ?_)
  have hP : va_P D vwCl [(sa, .inr (3, [.int 0, .int so, .int spl, .ref sb])), (sb, .inl (cI, 8, .inl smk))] H := hP
  have hD : va_D A [(sa, .inr (3, [.int 0, .int so, .int spl, .ref sb])), (sb, .inl (cI, 8, .inl smk))] := hD
  refine lv_aload_n hx hb dX3_makeNew_10 rfl (lv_at hl 0 rfl) ?_
  refine lv_iload_n hx hb dX3_makeNew_11 rfl (lv_at hl 2 rfl) ?_
  refine va_put (D := D) (ci := 3) (v := .int cnt) (ty := .int) (C := RX3) (T := TX3) (N := 4) hx hb hts w0 tyX3 tyX3_ok nmX3 hown hK hP hD hS 0 rfl rfl 2 (by decide) w3 (fun _ h9 => h9) rfl (by decide +kernel) rfl rfl (Nat.le_of_ble_eq_true rfl) dX3_makeNew_12 (fun H locs hP hD hS => ?_)
  have hP : va_P D vwCl [(sa, .inr (3, [.int 0, .int so, .int cnt, .ref sb])), (sb, .inl (cI, 8, .inl smk))] H := hP
  have hD : va_D A [(sa, .inr (3, [.int 0, .int so, .int cnt, .ref sb])), (sb, .inl (cI, 8, .inl smk))] := hD
  refine lv_aload_n hx hb dX3_makeNew_15 rfl (lv_at hl 0 rfl) ?_
  refine va_get (D := D) (ci := 3) (v := .ref sb) (C := RX3) (T := TX3) (N := 4) hx hb hts w0 hown hK hP 0 rfl rfl 3 (by decide) w4 (fun _ h9 => h9) rfl dX3_makeNew_16 ?_
  refine lv_bipush (v := (-15)) hx hb dX3_makeNew_19 (by decide) ?_
  obtain ⟨o1, hc2, hf⟩ := bd_inv hf
  refine xcS (As := [.ref sb, .int (-15)]) (rest := []) (ws' := [(sa, .inr (3, [.int 0, .int so, .int cnt, .ref sb])), (sb, .inl (cI, 8, .inl o1))]) ⟨hx, hb, hml, hown, hts⟩ (c_J7_fill_53178 l D B adK adV cC cF cI cZ cM cS sb smk 8 (-15)  o1 hc2) (va_cwS 2 hts gX3_makeNew_J7_fill_53178 rfl rfl rfl (by decide +kernel) ⟨Nat.le_of_ble_eq_true rfl, Nat.le_of_ble_eq_true rfl⟩) hK hP hD hS hB hE [1] rfl rfl rfl rfl rfl hl.1 rfl (Nat.le_of_ble_eq_true rfl) dX3_makeNew_21 ⟨Nat.le_of_ble_eq_true rfl, Nat.le_of_ble_eq_true rfl⟩ (fun H locs hP hD hS => ?_)
  refine W.eq (g2 := F0 m 24 ls []) rfl ?_
  have h1 := Option.some.inj hf
  subst h1
  rw [hQ]
  exact W.vret hx hb hr (fun t ht hW => qEnd hP hS ht) hS.2.2 dX3_makeNew_24
set_option maxRecDepth 100000 in
set_option maxHeartbeats 4000000 in
theorem c_X3_remove (l : Launch) (D : va_G) (B : Nat) (adK adV : Nat → Nat) (cC cF cI cZ cM cS : ClassId) (sa : Nat) (sms : Int32) (smf : Int32) (spl : Int32) (sb : Nat) (smk : Nat → Int32) (zz : (Nat → Int32) × Int32 × Int32 × Int32) (hf : f_X3_remove smk = some zz) : Ct l yX3_remove wsX3_remove { frames := 2, cells := 0, slots := 0, locals := 45 } D B adK adV (tysX cC cF cI cZ cM cS) [.ref sa] [(sa, .inr (3, [.int sms, .int smf, .int spl, .ref sb])), (sb, .inl (cI, 8, .inl smk))] [(sa, .inr (3, [.int zz.2.1, .int zz.2.2.1, .int zz.2.2.2, .ref sb])), (sb, .inl (cI, 8, .inl zz.1))] none := by
  refine Ct.ofW (cc := cX3_remove) (maxL := 1) (ret := none) (by decide) rfl (Nat.le_of_ble_eq_true rfl) ?_
  intro p e s m args below meth c hx hb hr hml hts hown hlocks hnm hK hE A Q hQ hB H locs ls hP hD hS hl
  have hl : lv_has ls 1 [(0, .ref sa)] := hl
  have w0 : ∀ w ∈ u_ws RX3 TX3 4, w ∈ wsX3_remove := by decide +kernel
  have w1 := hts (.fieldLink RX3 9 "MotionStates$Shelf" "isMissing" "Z") (by decide +kernel)
  unfold f_X3_remove at hf
  refine lv_aload_n hx hb dX3_remove_0 rfl (lv_at hl 0 rfl) ?_
  refine lv_iconst (v := 0) hx hb dX3_remove_1 (by decide) ?_
  refine lv_iconst (v := 0) hx hb dX3_remove_2 (by decide) ?_
  obtain ⟨⟨o1, o2, o3, o4⟩, hc5, hf⟩ := bd_inv hf
  refine xcV (As := [.int 0, .int 0]) (rest := []) (ws' := [(sa, .inr (3, [.int o2, .int o3, .int o4, .ref sb])), (sb, .inl (cI, 8, .inl o1))]) ⟨hx, hb, hml, hown, hts⟩ (c_X3_makeNew l D B adK adV cC cF cI cZ cM cS sa sms smf spl sb smk 0 0  (o1, o2, o3, o4) hc5) (cwV 2 hts gX3_remove_X3_makeNew rfl rfl rfl (by decide +kernel) ⟨Nat.le_of_ble_eq_true rfl, Nat.le_of_ble_eq_true rfl⟩) (va_recv hK hP (ci := 3) (q0 := 0) rfl rfl) hK hP hD hS hB hE [0, 1] rfl rfl rfl rfl rfl hl.1 rfl (Nat.le_of_ble_eq_true rfl) dX3_remove_3 ⟨Nat.le_of_ble_eq_true rfl, Nat.le_of_ble_eq_true rfl⟩ (fun H locs hP hD hS => ?_)
  refine W.eq (g2 := F0 m 6 ls []) rfl ?_
  refine lv_aload_n hx hb dX3_remove_6 rfl (lv_at hl 0 rfl) ?_
  refine lv_iconst (v := 1) hx hb dX3_remove_7 (by decide) ?_
  refine va_put (D := D) (ci := 3) (v := .int 1) (ty := .boolean) (C := RX3) (T := TX3) (N := 4) hx hb hts w0 tyX3 tyX3_ok nmX3 hown hK hP hD hS 0 rfl rfl 0 (by decide) w1 (fun _ h9 => h9) rfl (by decide +kernel) rfl rfl (Nat.le_of_ble_eq_true rfl) dX3_remove_8 (fun H locs hP hD hS => ?_)
  have hP : va_P D vwCl [(sa, .inr (3, [.int 1, .int o3, .int o4, .ref sb])), (sb, .inl (cI, 8, .inl o1))] H := hP
  have hD : va_D A [(sa, .inr (3, [.int 1, .int o3, .int o4, .ref sb])), (sb, .inl (cI, 8, .inl o1))] := hD
  have h1 := Option.some.inj hf
  subst h1
  rw [hQ]
  exact W.vret hx hb hr (fun t ht hW => qEnd hP hS ht) hS.2.2 dX3_remove_11
set_option maxRecDepth 100000 in
set_option maxHeartbeats 4000000 in
theorem c_X3_copyFrom (l : Launch) (D : va_G) (B : Nat) (adK adV : Nat → Nat) (cC cF cI cZ cM cS : ClassId) (sa : Nat) (sms : Int32) (smf : Int32) (spl : Int32) (sb : Nat) (smk : Nat → Int32) (ta : Nat) (tms : Int32) (tmf : Int32) (tpl : Int32) (tb : Nat) (tmk : Nat → Int32) (zz : (Nat → Int32) × Int32 × Int32 × Int32) (hf : f_X3_copyFrom smk tms tmf tpl tmk = some zz) : Ct l yX3_copyFrom wsX3_copyFrom { frames := 1, cells := 0, slots := 0, locals := 68 } D B adK adV (tysX cC cF cI cZ cM cS) [.ref sa, .ref ta] [(sa, .inr (3, [.int sms, .int smf, .int spl, .ref sb])), (sb, .inl (cI, 8, .inl smk)), (ta, .inr (3, [.int tms, .int tmf, .int tpl, .ref tb])), (tb, .inl (cI, 8, .inl tmk))] [(sa, .inr (3, [.int zz.2.1, .int zz.2.2.1, .int zz.2.2.2, .ref sb])), (sb, .inl (cI, 8, .inl zz.1)), (ta, .inr (3, [.int tms, .int tmf, .int tpl, .ref tb])), (tb, .inl (cI, 8, .inl tmk))] none := by
  refine Ct.ofW (cc := cX3_copyFrom) (maxL := 2) (ret := none) (by decide) rfl (Nat.le_of_ble_eq_true rfl) ?_
  intro p e s m args below meth c hx hb hr hml hts hown hlocks hnm hK hE A Q hQ hB H locs ls hP hD hS hl
  have hl : lv_has ls 2 [(0, .ref sa), (1, .ref ta)] := hl
  have w0 : ∀ w ∈ u_ws RX3 TX3 4, w ∈ wsX3_copyFrom := by decide +kernel
  have w1 := hts (.fieldLink RX3 9 "MotionStates$Shelf" "isMissing" "Z") (by decide +kernel)
  have w2 := hts (.fieldLink RX3 19 "MotionStates$Shelf" "madeFor" "I") (by decide +kernel)
  have w3 := hts (.fieldLink RX3 23 "MotionStates$Shelf" "places" "I") (by decide +kernel)
  have w4 := hts (.fieldLink RX3 15 "MotionStates$Shelf" "marks" "[I") (by decide +kernel)
  have w5 := hts (.methodLink RX3 36 arraycopyName) (by decide +kernel)
  have w6 := hts (.native arraycopyName) (by decide +kernel)
  have w7 := hts (.static arraycopyName) (by decide +kernel)
  have w8 := hts (.initialized "java/lang/System") (by decide +kernel)
  unfold f_X3_copyFrom at hf
  refine lv_aload_n hx hb dX3_copyFrom_0 rfl (lv_at hl 0 rfl) ?_
  refine lv_aload_n hx hb dX3_copyFrom_1 rfl (lv_at hl 1 rfl) ?_
  refine va_get (D := D) (ci := 3) (v := .int tms) (C := RX3) (T := TX3) (N := 4) hx hb hts w0 hown hK hP 2 rfl rfl 0 (by decide) w1 (fun _ h9 => h9) rfl dX3_copyFrom_2 ?_
  obtain ⟨g1, hf⟩ := gd_inv hf
  refine va_put (D := D) (ci := 3) (v := .int tms) (ty := .boolean) (C := RX3) (T := TX3) (N := 4) hx hb hts w0 tyX3 tyX3_ok nmX3 hown hK hP hD hS 0 rfl rfl 0 (by decide) w1 (fun _ h9 => h9) rfl (by decide +kernel) (zok_n g1) (zok_f g1) (Nat.le_of_ble_eq_true rfl) dX3_copyFrom_5 (fun H locs hP hD hS => ?_)
  have hP : va_P D vwCl [(sa, .inr (3, [.int tms, .int smf, .int spl, .ref sb])), (sb, .inl (cI, 8, .inl smk)), (ta, .inr (3, [.int tms, .int tmf, .int tpl, .ref tb])), (tb, .inl (cI, 8, .inl tmk))] H := hP
  have hD : va_D A [(sa, .inr (3, [.int tms, .int smf, .int spl, .ref sb])), (sb, .inl (cI, 8, .inl smk)), (ta, .inr (3, [.int tms, .int tmf, .int tpl, .ref tb])), (tb, .inl (cI, 8, .inl tmk))] := hD
  refine lv_aload_n hx hb dX3_copyFrom_8 rfl (lv_at hl 0 rfl) ?_
  refine lv_aload_n hx hb dX3_copyFrom_9 rfl (lv_at hl 1 rfl) ?_
  refine va_get (D := D) (ci := 3) (v := .int tmf) (C := RX3) (T := TX3) (N := 4) hx hb hts w0 hown hK hP 2 rfl rfl 1 (by decide) w2 (fun _ h9 => h9) rfl dX3_copyFrom_10 ?_
  refine va_put (D := D) (ci := 3) (v := .int tmf) (ty := .int) (C := RX3) (T := TX3) (N := 4) hx hb hts w0 tyX3 tyX3_ok nmX3 hown hK hP hD hS 0 rfl rfl 1 (by decide) w2 (fun _ h9 => h9) rfl (by decide +kernel) rfl rfl (Nat.le_of_ble_eq_true rfl) dX3_copyFrom_13 (fun H locs hP hD hS => ?_)
  have hP : va_P D vwCl [(sa, .inr (3, [.int tms, .int tmf, .int spl, .ref sb])), (sb, .inl (cI, 8, .inl smk)), (ta, .inr (3, [.int tms, .int tmf, .int tpl, .ref tb])), (tb, .inl (cI, 8, .inl tmk))] H := hP
  have hD : va_D A [(sa, .inr (3, [.int tms, .int tmf, .int spl, .ref sb])), (sb, .inl (cI, 8, .inl smk)), (ta, .inr (3, [.int tms, .int tmf, .int tpl, .ref tb])), (tb, .inl (cI, 8, .inl tmk))] := hD
  refine lv_aload_n hx hb dX3_copyFrom_16 rfl (lv_at hl 0 rfl) ?_
  refine lv_aload_n hx hb dX3_copyFrom_17 rfl (lv_at hl 1 rfl) ?_
  refine va_get (D := D) (ci := 3) (v := .int tpl) (C := RX3) (T := TX3) (N := 4) hx hb hts w0 hown hK hP 2 rfl rfl 2 (by decide) w3 (fun _ h9 => h9) rfl dX3_copyFrom_18 ?_
  refine va_put (D := D) (ci := 3) (v := .int tpl) (ty := .int) (C := RX3) (T := TX3) (N := 4) hx hb hts w0 tyX3 tyX3_ok nmX3 hown hK hP hD hS 0 rfl rfl 2 (by decide) w3 (fun _ h9 => h9) rfl (by decide +kernel) rfl rfl (Nat.le_of_ble_eq_true rfl) dX3_copyFrom_21 (fun H locs hP hD hS => ?_)
  have hP : va_P D vwCl [(sa, .inr (3, [.int tms, .int tmf, .int tpl, .ref sb])), (sb, .inl (cI, 8, .inl smk)), (ta, .inr (3, [.int tms, .int tmf, .int tpl, .ref tb])), (tb, .inl (cI, 8, .inl tmk))] H := hP
  have hD : va_D A [(sa, .inr (3, [.int tms, .int tmf, .int tpl, .ref sb])), (sb, .inl (cI, 8, .inl smk)), (ta, .inr (3, [.int tms, .int tmf, .int tpl, .ref tb])), (tb, .inl (cI, 8, .inl tmk))] := hD
  refine lv_aload_n hx hb dX3_copyFrom_24 rfl (lv_at hl 1 rfl) ?_
  refine va_get (D := D) (ci := 3) (v := .ref tb) (C := RX3) (T := TX3) (N := 4) hx hb hts w0 hown hK hP 2 rfl rfl 3 (by decide) w4 (fun _ h9 => h9) rfl dX3_copyFrom_25 ?_
  refine lv_iconst (v := 0) hx hb dX3_copyFrom_28 (by decide) ?_
  refine lv_aload_n hx hb dX3_copyFrom_29 rfl (lv_at hl 0 rfl) ?_
  refine va_get (D := D) (ci := 3) (v := .ref sb) (C := RX3) (T := TX3) (N := 4) hx hb hts w0 hown hK hP 0 rfl rfl 3 (by decide) w4 (fun _ h9 => h9) rfl dX3_copyFrom_30 ?_
  refine lv_iconst (v := 0) hx hb dX3_copyFrom_33 (by decide) ?_
  refine lv_bipush (v := 8) hx hb dX3_copyFrom_34 (by decide) ?_
  refine va_copyi hx hb (hml.trans hl.1.symm) hown w5 w6 w7 w8 hK hP hD hS 3 1 2 2 rfl rfl rfl rfl rfl (by decide) (by decide) (by decide) (by decide) (by decide) (fun _ _ => rfl) (Nat.le_of_ble_eq_true rfl) (Nat.le_of_ble_eq_true rfl) dX3_copyFrom_36 (fun H locs hP hD hS => ?_)
  have hP : va_P D vwCl [(sa, .inr (3, [.int tms, .int tmf, .int tpl, .ref sb])), (sb, .inl (cI, 8, .inl (va_cpy tmk smk 0 0 8))), (ta, .inr (3, [.int tms, .int tmf, .int tpl, .ref tb])), (tb, .inl (cI, 8, .inl tmk))] H := hP
  have hD : va_D A [(sa, .inr (3, [.int tms, .int tmf, .int tpl, .ref sb])), (sb, .inl (cI, 8, .inl (va_cpy tmk smk 0 0 8))), (ta, .inr (3, [.int tms, .int tmf, .int tpl, .ref tb])), (tb, .inl (cI, 8, .inl tmk))] := hD
  have h1 := Option.some.inj hf
  subst h1
  rw [hQ]
  exact W.vret hx hb hr (fun t ht hW => qEnd hP hS ht) hS.2.2 dX3_copyFrom_39
set_option maxRecDepth 100000 in
set_option maxHeartbeats 4000000 in
theorem c_X3_copyFrom_s (l : Launch) (D : va_G) (B : Nat) (adK adV : Nat → Nat) (cC cF cI cZ cM cS : ClassId) (sa : Nat) (sms : Int32) (smf : Int32) (spl : Int32) (sb : Nat) (smk : Nat → Int32) (zz : (Nat → Int32)) (hf : f_X3_copyFrom_s sms smk = some zz) : Ct l yX3_copyFrom wsX3_copyFrom { frames := 1, cells := 0, slots := 0, locals := 68 } D B adK adV (tysX cC cF cI cZ cM cS) [.ref sa, .ref sa] [(sa, .inr (3, [.int sms, .int smf, .int spl, .ref sb])), (sb, .inl (cI, 8, .inl smk))] [(sa, .inr (3, [.int sms, .int smf, .int spl, .ref sb])), (sb, .inl (cI, 8, .inl zz))] none := by
  refine Ct.ofW (cc := cX3_copyFrom) (maxL := 2) (ret := none) (by decide) rfl (Nat.le_of_ble_eq_true rfl) ?_
  intro p e s m args below meth c hx hb hr hml hts hown hlocks hnm hK hE A Q hQ hB H locs ls hP hD hS hl
  have hl : lv_has ls 2 [(0, .ref sa), (1, .ref sa)] := hl
  have w0 : ∀ w ∈ u_ws RX3 TX3 4, w ∈ wsX3_copyFrom := by decide +kernel
  have w1 := hts (.fieldLink RX3 9 "MotionStates$Shelf" "isMissing" "Z") (by decide +kernel)
  have w2 := hts (.fieldLink RX3 19 "MotionStates$Shelf" "madeFor" "I") (by decide +kernel)
  have w3 := hts (.fieldLink RX3 23 "MotionStates$Shelf" "places" "I") (by decide +kernel)
  have w4 := hts (.fieldLink RX3 15 "MotionStates$Shelf" "marks" "[I") (by decide +kernel)
  have w5 := hts (.methodLink RX3 36 arraycopyName) (by decide +kernel)
  have w6 := hts (.native arraycopyName) (by decide +kernel)
  have w7 := hts (.static arraycopyName) (by decide +kernel)
  have w8 := hts (.initialized "java/lang/System") (by decide +kernel)
  unfold f_X3_copyFrom_s at hf
  refine lv_aload_n hx hb dX3_copyFrom_0 rfl (lv_at hl 0 rfl) ?_
  refine lv_aload_n hx hb dX3_copyFrom_1 rfl (lv_at hl 1 rfl) ?_
  refine va_get (D := D) (ci := 3) (v := .int sms) (C := RX3) (T := TX3) (N := 4) hx hb hts w0 hown hK hP 0 rfl rfl 0 (by decide) w1 (fun _ h9 => h9) rfl dX3_copyFrom_2 ?_
  obtain ⟨g1, hf⟩ := gd_inv hf
  refine va_put (D := D) (ci := 3) (v := .int sms) (ty := .boolean) (C := RX3) (T := TX3) (N := 4) hx hb hts w0 tyX3 tyX3_ok nmX3 hown hK hP hD hS 0 rfl rfl 0 (by decide) w1 (fun _ h9 => h9) rfl (by decide +kernel) (zok_n g1) (zok_f g1) (Nat.le_of_ble_eq_true rfl) dX3_copyFrom_5 (fun H locs hP hD hS => ?_)
  have hP : va_P D vwCl [(sa, .inr (3, [.int sms, .int smf, .int spl, .ref sb])), (sb, .inl (cI, 8, .inl smk))] H := hP
  have hD : va_D A [(sa, .inr (3, [.int sms, .int smf, .int spl, .ref sb])), (sb, .inl (cI, 8, .inl smk))] := hD
  refine lv_aload_n hx hb dX3_copyFrom_8 rfl (lv_at hl 0 rfl) ?_
  refine lv_aload_n hx hb dX3_copyFrom_9 rfl (lv_at hl 1 rfl) ?_
  refine va_get (D := D) (ci := 3) (v := .int smf) (C := RX3) (T := TX3) (N := 4) hx hb hts w0 hown hK hP 0 rfl rfl 1 (by decide) w2 (fun _ h9 => h9) rfl dX3_copyFrom_10 ?_
  refine va_put (D := D) (ci := 3) (v := .int smf) (ty := .int) (C := RX3) (T := TX3) (N := 4) hx hb hts w0 tyX3 tyX3_ok nmX3 hown hK hP hD hS 0 rfl rfl 1 (by decide) w2 (fun _ h9 => h9) rfl (by decide +kernel) rfl rfl (Nat.le_of_ble_eq_true rfl) dX3_copyFrom_13 (fun H locs hP hD hS => ?_)
  have hP : va_P D vwCl [(sa, .inr (3, [.int sms, .int smf, .int spl, .ref sb])), (sb, .inl (cI, 8, .inl smk))] H := hP
  have hD : va_D A [(sa, .inr (3, [.int sms, .int smf, .int spl, .ref sb])), (sb, .inl (cI, 8, .inl smk))] := hD
  refine lv_aload_n hx hb dX3_copyFrom_16 rfl (lv_at hl 0 rfl) ?_
  refine lv_aload_n hx hb dX3_copyFrom_17 rfl (lv_at hl 1 rfl) ?_
  refine va_get (D := D) (ci := 3) (v := .int spl) (C := RX3) (T := TX3) (N := 4) hx hb hts w0 hown hK hP 0 rfl rfl 2 (by decide) w3 (fun _ h9 => h9) rfl dX3_copyFrom_18 ?_
  refine va_put (D := D) (ci := 3) (v := .int spl) (ty := .int) (C := RX3) (T := TX3) (N := 4) hx hb hts w0 tyX3 tyX3_ok nmX3 hown hK hP hD hS 0 rfl rfl 2 (by decide) w3 (fun _ h9 => h9) rfl (by decide +kernel) rfl rfl (Nat.le_of_ble_eq_true rfl) dX3_copyFrom_21 (fun H locs hP hD hS => ?_)
  have hP : va_P D vwCl [(sa, .inr (3, [.int sms, .int smf, .int spl, .ref sb])), (sb, .inl (cI, 8, .inl smk))] H := hP
  have hD : va_D A [(sa, .inr (3, [.int sms, .int smf, .int spl, .ref sb])), (sb, .inl (cI, 8, .inl smk))] := hD
  refine lv_aload_n hx hb dX3_copyFrom_24 rfl (lv_at hl 1 rfl) ?_
  refine va_get (D := D) (ci := 3) (v := .ref sb) (C := RX3) (T := TX3) (N := 4) hx hb hts w0 hown hK hP 0 rfl rfl 3 (by decide) w4 (fun _ h9 => h9) rfl dX3_copyFrom_25 ?_
  refine lv_iconst (v := 0) hx hb dX3_copyFrom_28 (by decide) ?_
  refine lv_aload_n hx hb dX3_copyFrom_29 rfl (lv_at hl 0 rfl) ?_
  refine va_get (D := D) (ci := 3) (v := .ref sb) (C := RX3) (T := TX3) (N := 4) hx hb hts w0 hown hK hP 0 rfl rfl 3 (by decide) w4 (fun _ h9 => h9) rfl dX3_copyFrom_30 ?_
  refine lv_iconst (v := 0) hx hb dX3_copyFrom_33 (by decide) ?_
  refine lv_bipush (v := 8) hx hb dX3_copyFrom_34 (by decide) ?_
  refine va_copyi hx hb (hml.trans hl.1.symm) hown w5 w6 w7 w8 hK hP hD hS 1 1 2 2 rfl rfl rfl rfl rfl (by decide) (by decide) (by decide) (by decide) (by decide) (fun _ _ => rfl) (Nat.le_of_ble_eq_true rfl) (Nat.le_of_ble_eq_true rfl) dX3_copyFrom_36 (fun H locs hP hD hS => ?_)
  have hP : va_P D vwCl [(sa, .inr (3, [.int sms, .int smf, .int spl, .ref sb])), (sb, .inl (cI, 8, .inl (va_cpy smk smk 0 0 8)))] H := hP
  have hD : va_D A [(sa, .inr (3, [.int sms, .int smf, .int spl, .ref sb])), (sb, .inl (cI, 8, .inl (va_cpy smk smk 0 0 8)))] := hD
  have h1 := Option.some.inj hf
  subst h1
  rw [hQ]
  exact W.vret hx hb hr (fun t ht hW => qEnd hP hS ht) hS.2.2 dX3_copyFrom_39
set_option maxRecDepth 100000 in
set_option maxHeartbeats 4000000 in
theorem c_X3_hasPlace (l : Launch) (D : va_G) (B : Nat) (adK adV : Nat → Nat) (cC cF cI cZ cM cS : ClassId) (sa : Nat) (sms : Int32) (smf : Int32) (spl : Int32) (sb : Nat) (smk : Nat → Int32) (i : Int32) (zz : Int32) (hf : f_X3_hasPlace spl i = some zz) : Ct l yX3_hasPlace wsX3_hasPlace { frames := 0, cells := 0, slots := 0, locals := 0 } D B adK adV (tysX cC cF cI cZ cM cS) [.ref sa, .int i] [(sa, .inr (3, [.int sms, .int smf, .int spl, .ref sb])), (sb, .inl (cI, 8, .inl smk))] [(sa, .inr (3, [.int sms, .int smf, .int spl, .ref sb])), (sb, .inl (cI, 8, .inl smk))] (some (.int zz)) := by
  refine Ct.ofW (cc := cX3_hasPlace) (maxL := 2) (ret := (some .boolean)) (by decide) rfl (Nat.le_of_ble_eq_true rfl) ?_
  intro p e s m args below meth c hx hb hr hml hts hown hlocks hnm hK hE A Q hQ hB H locs ls hP hD hS hl
  have hl : lv_has ls 2 [(0, .ref sa), (1, .int i)] := hl
  have w0 : ∀ w ∈ u_ws RX3 TX3 4, w ∈ wsX3_hasPlace := by decide +kernel
  have w1 := hts (.fieldLink RX3 23 "MotionStates$Shelf" "places" "I") (by decide +kernel)
  unfold f_X3_hasPlace at hf
  refine lv_iload_n hx hb dX3_hasPlace_0 rfl (lv_at hl 1 rfl) ?_
  refine lv_if_lt (tgt := 16) hx hb dX3_hasPlace_1 (by decide) (fun c1 => ?_) (fun c1 => ?_)
  · have hf := if_p c1 hf
    refine lv_iconst (v := 0) hx hb dX3_hasPlace_16 (by decide) ?_
    have h1 := Option.some.inj hf
    subst h1
    rw [hQ]
    exact W.zret (v := 0) (ty := .boolean) hx hb hr rfl (fun t ht hW => qEnd hP hS ht) hS.2.2 dX3_hasPlace_17
  · have hf := if_n c1 hf
    refine lv_iload_n hx hb dX3_hasPlace_4 rfl (lv_at hl 1 rfl) ?_
    refine lv_aload_n hx hb dX3_hasPlace_5 rfl (lv_at hl 0 rfl) ?_
    refine va_get (D := D) (ci := 3) (v := .int spl) (C := RX3) (T := TX3) (N := 4) hx hb hts w0 hown hK hP 0 rfl rfl 2 (by decide) w1 (fun _ h9 => h9) rfl dX3_hasPlace_6 ?_
    refine lv_icmp_ge (tgt := 16) hx hb dX3_hasPlace_9 (by decide) (fun c2 => ?_) (fun c2 => ?_)
    · have hf := if_p c2 hf
      refine lv_iconst (v := 0) hx hb dX3_hasPlace_16 (by decide) ?_
      have h1 := Option.some.inj hf
      subst h1
      rw [hQ]
      exact W.zret (v := 0) (ty := .boolean) hx hb hr rfl (fun t ht hW => qEnd hP hS ht) hS.2.2 dX3_hasPlace_17
    · have hf := if_n c2 hf
      refine lv_iconst (v := 1) hx hb dX3_hasPlace_12 (by decide) ?_
      refine lv_goto (tgt := 17) hx hb dX3_hasPlace_13 (by decide) ?_
      have h1 := Option.some.inj hf
      subst h1
      rw [hQ]
      exact W.zret (v := 1) (ty := .boolean) hx hb hr rfl (fun t ht hW => qEnd hP hS ht) hS.2.2 dX3_hasPlace_17
set_option maxRecDepth 100000 in
set_option maxHeartbeats 4000000 in
theorem c_X3_takes (l : Launch) (D : va_G) (B : Nat) (adK adV : Nat → Nat) (cC cF cI cZ cM cS : ClassId) (sa : Nat) (sms : Int32) (smf : Int32) (spl : Int32) (sb : Nat) (smk : Nat → Int32) (v : Int32) (zz : Int32) (hf : f_X3_takes smf v = some zz) : Ct l yX3_takes wsX3_takes { frames := 0, cells := 0, slots := 0, locals := 0 } D B adK adV (tysX cC cF cI cZ cM cS) [.ref sa, .int v] [(sa, .inr (3, [.int sms, .int smf, .int spl, .ref sb])), (sb, .inl (cI, 8, .inl smk))] [(sa, .inr (3, [.int sms, .int smf, .int spl, .ref sb])), (sb, .inl (cI, 8, .inl smk))] (some (.int zz)) := by
  refine Ct.ofW (cc := cX3_takes) (maxL := 2) (ret := (some .boolean)) (by decide) rfl (Nat.le_of_ble_eq_true rfl) ?_
  intro p e s m args below meth c hx hb hr hml hts hown hlocks hnm hK hE A Q hQ hB H locs ls hP hD hS hl
  have hl : lv_has ls 2 [(0, .ref sa), (1, .int v)] := hl
  have w0 : ∀ w ∈ u_ws RX3 TX3 4, w ∈ wsX3_takes := by decide +kernel
  have w1 := hts (.fieldLink RX3 19 "MotionStates$Shelf" "madeFor" "I") (by decide +kernel)
  unfold f_X3_takes at hf
  refine lv_aload_n hx hb dX3_takes_0 rfl (lv_at hl 0 rfl) ?_
  refine va_get (D := D) (ci := 3) (v := .int smf) (C := RX3) (T := TX3) (N := 4) hx hb hts w0 hown hK hP 0 rfl rfl 1 (by decide) w1 (fun _ h9 => h9) rfl dX3_takes_1 ?_
  refine lv_if_eq (tgt := 26) hx hb dX3_takes_4 (by decide) (fun c1 => ?_) (fun c1 => ?_)
  · have hf := if_p c1 hf
    refine lv_iconst (v := 1) hx hb dX3_takes_26 (by decide) ?_
    refine lv_goto (tgt := 31) hx hb dX3_takes_27 (by decide) ?_
    have h1 := Option.some.inj hf
    subst h1
    rw [hQ]
    exact W.zret (v := 1) (ty := .boolean) hx hb hr rfl (fun t ht hW => qEnd hP hS ht) hS.2.2 dX3_takes_31
  · have hf := if_n c1 hf
    refine lv_aload_n hx hb dX3_takes_7 rfl (lv_at hl 0 rfl) ?_
    refine va_get (D := D) (ci := 3) (v := .int smf) (C := RX3) (T := TX3) (N := 4) hx hb hts w0 hown hK hP 0 rfl rfl 1 (by decide) w1 (fun _ h9 => h9) rfl dX3_takes_8 ?_
    refine lv_iload_n hx hb dX3_takes_11 rfl (lv_at hl 1 rfl) ?_
    refine lv_sipush (v := 1000) hx hb dX3_takes_12 (by decide) ?_
    refine lv_icmp_ge (tgt := 22) hx hb dX3_takes_15 (by decide) (fun c2 => ?_) (fun c2 => ?_)
    · have hf := if_p c2 hf
      refine lv_iconst (v := 2) hx hb dX3_takes_22 (by decide) ?_
      refine lv_icmp_ne (tgt := 30) hx hb dX3_takes_23 (by decide) (fun c3 => ?_) (fun c3 => ?_)
      · have hf := if_n c3 hf
        refine lv_iconst (v := 0) hx hb dX3_takes_30 (by decide) ?_
        have h1 := Option.some.inj hf
        subst h1
        rw [hQ]
        exact W.zret (v := 0) (ty := .boolean) hx hb hr rfl (fun t ht hW => qEnd hP hS ht) hS.2.2 dX3_takes_31
      · have hf := if_p c3 hf
        refine lv_iconst (v := 1) hx hb dX3_takes_26 (by decide) ?_
        refine lv_goto (tgt := 31) hx hb dX3_takes_27 (by decide) ?_
        have h1 := Option.some.inj hf
        subst h1
        rw [hQ]
        exact W.zret (v := 1) (ty := .boolean) hx hb hr rfl (fun t ht hW => qEnd hP hS ht) hS.2.2 dX3_takes_31
    · have hf := if_n c2 hf
      refine lv_iconst (v := 1) hx hb dX3_takes_18 (by decide) ?_
      refine lv_goto (tgt := 23) hx hb dX3_takes_19 (by decide) ?_
      refine lv_icmp_ne (tgt := 30) hx hb dX3_takes_23 (by decide) (fun c4 => ?_) (fun c4 => ?_)
      · have hf := if_n c4 hf
        refine lv_iconst (v := 0) hx hb dX3_takes_30 (by decide) ?_
        have h1 := Option.some.inj hf
        subst h1
        rw [hQ]
        exact W.zret (v := 0) (ty := .boolean) hx hb hr rfl (fun t ht hW => qEnd hP hS ht) hS.2.2 dX3_takes_31
      · have hf := if_p c4 hf
        refine lv_iconst (v := 1) hx hb dX3_takes_26 (by decide) ?_
        refine lv_goto (tgt := 31) hx hb dX3_takes_27 (by decide) ?_
        have h1 := Option.some.inj hf
        subst h1
        rw [hQ]
        exact W.zret (v := 1) (ty := .boolean) hx hb hr rfl (fun t ht hW => qEnd hP hS ht) hS.2.2 dX3_takes_31
set_option maxRecDepth 100000 in
set_option maxHeartbeats 4000000 in
theorem c_X3_refusalOf (l : Launch) (D : va_G) (B : Nat) (adK adV : Nat → Nat) (cC cF cI cZ cM cS : ClassId) (sa : Nat) (sms : Int32) (smf : Int32) (spl : Int32) (sb : Nat) (smk : Nat → Int32) (i : Int32) (v : Int32) (zz : Int32) (hf : f_X3_refusalOf sms smf spl i v = some zz) : Ct l yX3_refusalOf wsX3_refusalOf { frames := 1, cells := 0, slots := 0, locals := 21 } D B adK adV (tysX cC cF cI cZ cM cS) [.ref sa, .int i, .int v] [(sa, .inr (3, [.int sms, .int smf, .int spl, .ref sb])), (sb, .inl (cI, 8, .inl smk))] [(sa, .inr (3, [.int sms, .int smf, .int spl, .ref sb])), (sb, .inl (cI, 8, .inl smk))] (some (.int zz)) := by
  refine Ct.ofW (cc := cX3_refusalOf) (maxL := 3) (ret := (some .int)) (by decide) rfl (Nat.le_of_ble_eq_true rfl) ?_
  intro p e s m args below meth c hx hb hr hml hts hown hlocks hnm hK hE A Q hQ hB H locs ls hP hD hS hl
  have hl : lv_has ls 3 [(0, .ref sa), (1, .int i), (2, .int v)] := hl
  have w0 : ∀ w ∈ u_ws RX3 TX3 4, w ∈ wsX3_refusalOf := by decide +kernel
  have w1 := hts (.fieldLink RX3 9 "MotionStates$Shelf" "isMissing" "Z") (by decide +kernel)
  unfold f_X3_refusalOf at hf
  refine lv_aload_n hx hb dX3_refusalOf_0 rfl (lv_at hl 0 rfl) ?_
  refine va_get (D := D) (ci := 3) (v := .int sms) (C := RX3) (T := TX3) (N := 4) hx hb hts w0 hown hK hP 0 rfl rfl 0 (by decide) w1 (fun _ h9 => h9) rfl dX3_refusalOf_1 ?_
  refine lv_if_eq (tgt := 10) hx hb dX3_refusalOf_4 (by decide) (fun c1 => ?_) (fun c1 => ?_)
  · have hf := if_p c1 hf
    refine lv_aload_n hx hb dX3_refusalOf_10 rfl (lv_at hl 0 rfl) ?_
    refine lv_iload_n hx hb dX3_refusalOf_11 rfl (lv_at hl 1 rfl) ?_
    obtain ⟨r2, hc3, hf⟩ := bd_inv hf
    refine xcV (As := [.int i]) (rest := []) (ws' := [(sa, .inr (3, [.int sms, .int smf, .int spl, .ref sb])), (sb, .inl (cI, 8, .inl smk))]) ⟨hx, hb, hml, hown, hts⟩ (c_X3_hasPlace l D B adK adV cC cF cI cZ cM cS sa sms smf spl sb smk i  r2 hc3) (cwV 1 hts gX3_refusalOf_X3_hasPlace rfl rfl rfl (by decide +kernel) ⟨Nat.le_of_ble_eq_true rfl, Nat.le_of_ble_eq_true rfl⟩) (va_recv hK hP (ci := 3) (q0 := 0) rfl rfl) hK hP hD hS hB hE [0, 1] rfl rfl rfl rfl rfl hl.1 rfl (Nat.le_of_ble_eq_true rfl) dX3_refusalOf_12 ⟨Nat.le_of_ble_eq_true rfl, Nat.le_of_ble_eq_true rfl⟩ (fun H locs hP hD hS => ?_)
    refine W.eq (g2 := F0 m 15 ls [.int r2]) rfl ?_
    refine lv_if_ne (tgt := 21) hx hb dX3_refusalOf_15 (by decide) (fun c4 => ?_) (fun c4 => ?_)
    · have hf := if_n c4 hf
      refine lv_aload_n hx hb dX3_refusalOf_21 rfl (lv_at hl 0 rfl) ?_
      refine lv_iload_n hx hb dX3_refusalOf_22 rfl (lv_at hl 2 rfl) ?_
      obtain ⟨r5, hc6, hf⟩ := bd_inv hf
      refine xcV (As := [.int v]) (rest := []) (ws' := [(sa, .inr (3, [.int sms, .int smf, .int spl, .ref sb])), (sb, .inl (cI, 8, .inl smk))]) ⟨hx, hb, hml, hown, hts⟩ (c_X3_takes l D B adK adV cC cF cI cZ cM cS sa sms smf spl sb smk v  r5 hc6) (cwV 1 hts gX3_refusalOf_X3_takes rfl rfl rfl (by decide +kernel) ⟨Nat.le_of_ble_eq_true rfl, Nat.le_of_ble_eq_true rfl⟩) (va_recv hK hP (ci := 3) (q0 := 0) rfl rfl) hK hP hD hS hB hE [0, 1] rfl rfl rfl rfl rfl hl.1 rfl (Nat.le_of_ble_eq_true rfl) dX3_refusalOf_23 ⟨Nat.le_of_ble_eq_true rfl, Nat.le_of_ble_eq_true rfl⟩ (fun H locs hP hD hS => ?_)
      refine W.eq (g2 := F0 m 26 ls [.int r5]) rfl ?_
      refine lv_if_eq (tgt := 33) hx hb dX3_refusalOf_26 (by decide) (fun c7 => ?_) (fun c7 => ?_)
      · have hf := if_p c7 hf
        refine lv_bipush (v := (-14)) hx hb dX3_refusalOf_33 (by decide) ?_
        have h1 := Option.some.inj hf
        subst h1
        rw [hQ]
        exact W.iret (v := (-14)) hx hb hr (fun t ht hW => qEnd hP hS ht) hS.2.2 dX3_refusalOf_35
      · have hf := if_n c7 hf
        refine lv_iconst (v := (-1)) hx hb dX3_refusalOf_29 (by decide) ?_
        refine lv_goto (tgt := 35) hx hb dX3_refusalOf_30 (by decide) ?_
        have h1 := Option.some.inj hf
        subst h1
        rw [hQ]
        exact W.iret (v := (-1)) hx hb hr (fun t ht hW => qEnd hP hS ht) hS.2.2 dX3_refusalOf_35
    · have hf := if_p c4 hf
      refine lv_bipush (v := (-13)) hx hb dX3_refusalOf_18 (by decide) ?_
      have h1 := Option.some.inj hf
      subst h1
      rw [hQ]
      exact W.iret (v := (-13)) hx hb hr (fun t ht hW => qEnd hP hS ht) hS.2.2 dX3_refusalOf_20
  · have hf := if_n c1 hf
    refine lv_bipush (v := (-11)) hx hb dX3_refusalOf_7 (by decide) ?_
    have h1 := Option.some.inj hf
    subst h1
    rw [hQ]
    exact W.iret (v := (-11)) hx hb hr (fun t ht hW => qEnd hP hS ht) hS.2.2 dX3_refusalOf_9
set_option maxRecDepth 100000 in
set_option maxHeartbeats 4000000 in
theorem c_X3_markAt (l : Launch) (D : va_G) (B : Nat) (adK adV : Nat → Nat) (cC cF cI cZ cM cS : ClassId) (sa : Nat) (sms : Int32) (smf : Int32) (spl : Int32) (sb : Nat) (smk : Nat → Int32) (i : Int32) (zz : Int32) (hf : f_X3_markAt sms spl smk i = some zz) : Ct l yX3_markAt wsX3_markAt { frames := 1, cells := 0, slots := 0, locals := 21 } D B adK adV (tysX cC cF cI cZ cM cS) [.ref sa, .int i] [(sa, .inr (3, [.int sms, .int smf, .int spl, .ref sb])), (sb, .inl (cI, 8, .inl smk))] [(sa, .inr (3, [.int sms, .int smf, .int spl, .ref sb])), (sb, .inl (cI, 8, .inl smk))] (some (.int zz)) := by
  refine Ct.ofW (cc := cX3_markAt) (maxL := 2) (ret := (some .int)) (by decide) rfl (Nat.le_of_ble_eq_true rfl) ?_
  intro p e s m args below meth c hx hb hr hml hts hown hlocks hnm hK hE A Q hQ hB H locs ls hP hD hS hl
  have hl : lv_has ls 2 [(0, .ref sa), (1, .int i)] := hl
  have w0 : ∀ w ∈ u_ws RX3 TX3 4, w ∈ wsX3_markAt := by decide +kernel
  have w1 := hts (.fieldLink RX3 9 "MotionStates$Shelf" "isMissing" "Z") (by decide +kernel)
  have w2 := hts (.fieldLink RX3 15 "MotionStates$Shelf" "marks" "[I") (by decide +kernel)
  unfold f_X3_markAt at hf
  refine lv_aload_n hx hb dX3_markAt_0 rfl (lv_at hl 0 rfl) ?_
  refine va_get (D := D) (ci := 3) (v := .int sms) (C := RX3) (T := TX3) (N := 4) hx hb hts w0 hown hK hP 0 rfl rfl 0 (by decide) w1 (fun _ h9 => h9) rfl dX3_markAt_1 ?_
  refine lv_if_eq (tgt := 10) hx hb dX3_markAt_4 (by decide) (fun c1 => ?_) (fun c1 => ?_)
  · have hf := if_p c1 hf
    refine lv_aload_n hx hb dX3_markAt_10 rfl (lv_at hl 0 rfl) ?_
    refine lv_iload_n hx hb dX3_markAt_11 rfl (lv_at hl 1 rfl) ?_
    obtain ⟨r2, hc3, hf⟩ := bd_inv hf
    refine xcV (As := [.int i]) (rest := []) (ws' := [(sa, .inr (3, [.int sms, .int smf, .int spl, .ref sb])), (sb, .inl (cI, 8, .inl smk))]) ⟨hx, hb, hml, hown, hts⟩ (c_X3_hasPlace l D B adK adV cC cF cI cZ cM cS sa sms smf spl sb smk i  r2 hc3) (cwV 1 hts gX3_markAt_X3_hasPlace rfl rfl rfl (by decide +kernel) ⟨Nat.le_of_ble_eq_true rfl, Nat.le_of_ble_eq_true rfl⟩) (va_recv hK hP (ci := 3) (q0 := 0) rfl rfl) hK hP hD hS hB hE [0, 1] rfl rfl rfl rfl rfl hl.1 rfl (Nat.le_of_ble_eq_true rfl) dX3_markAt_12 ⟨Nat.le_of_ble_eq_true rfl, Nat.le_of_ble_eq_true rfl⟩ (fun H locs hP hD hS => ?_)
    refine W.eq (g2 := F0 m 15 ls [.int r2]) rfl ?_
    refine lv_if_eq (tgt := 27) hx hb dX3_markAt_15 (by decide) (fun c4 => ?_) (fun c4 => ?_)
    · have hf := if_p c4 hf
      refine lv_bipush (v := (-13)) hx hb dX3_markAt_27 (by decide) ?_
      have h1 := Option.some.inj hf
      subst h1
      rw [hQ]
      exact W.iret (v := (-13)) hx hb hr (fun t ht hW => qEnd hP hS ht) hS.2.2 dX3_markAt_29
    · have hf := if_n c4 hf
      refine lv_aload_n hx hb dX3_markAt_18 rfl (lv_at hl 0 rfl) ?_
      refine va_get (D := D) (ci := 3) (v := .ref sb) (C := RX3) (T := TX3) (N := 4) hx hb hts w0 hown hK hP 0 rfl rfl 3 (by decide) w2 (fun _ h9 => h9) rfl dX3_markAt_19 ?_
      refine lv_iload_n hx hb dX3_markAt_22 rfl (lv_at hl 1 rfl) ?_
      obtain ⟨g5, hf⟩ := gd_inv hf
      refine va_iald hx hb hK hP 1 2 rfl rfl g5 dX3_markAt_23 ?_
      refine lv_goto (tgt := 29) hx hb dX3_markAt_24 (by decide) ?_
      have h1 := Option.some.inj hf
      subst h1
      rw [hQ]
      exact W.iret (v := (smk i.toNatClampNeg)) hx hb hr (fun t ht hW => qEnd hP hS ht) hS.2.2 dX3_markAt_29
  · have hf := if_n c1 hf
    refine lv_bipush (v := (-11)) hx hb dX3_markAt_7 (by decide) ?_
    have h1 := Option.some.inj hf
    subst h1
    rw [hQ]
    exact W.iret (v := (-11)) hx hb hr (fun t ht hW => qEnd hP hS ht) hS.2.2 dX3_markAt_9
set_option maxRecDepth 100000 in
set_option maxHeartbeats 4000000 in
theorem c_X3_things (l : Launch) (D : va_G) (B : Nat) (adK adV : Nat → Nat) (cC cF cI cZ cM cS : ClassId) (sa : Nat) (sms : Int32) (smf : Int32) (spl : Int32) (sb : Nat) (smk : Nat → Int32) (zz : Int32) (hf : f_X3_things spl smk = some zz) : Ct l yX3_things wsX3_things { frames := 0, cells := 0, slots := 0, locals := 0 } D B adK adV (tysX cC cF cI cZ cM cS) [.ref sa] [(sa, .inr (3, [.int sms, .int smf, .int spl, .ref sb])), (sb, .inl (cI, 8, .inl smk))] [(sa, .inr (3, [.int sms, .int smf, .int spl, .ref sb])), (sb, .inl (cI, 8, .inl smk))] (some (.int zz)) := by
  refine Ct.ofW (cc := cX3_things) (maxL := 3) (ret := (some .int)) (by decide) rfl (Nat.le_of_ble_eq_true rfl) ?_
  intro p e s m args below meth c hx hb hr hml hts hown hlocks hnm hK hE A Q hQ hB H locs ls hP hD hS hl
  have hl : lv_has ls 3 [(0, .ref sa)] := hl
  have w0 : ∀ w ∈ u_ws RX3 TX3 4, w ∈ wsX3_things := by decide +kernel
  have w1 := hts (.fieldLink RX3 23 "MotionStates$Shelf" "places" "I") (by decide +kernel)
  have w2 := hts (.fieldLink RX3 15 "MotionStates$Shelf" "marks" "[I") (by decide +kernel)
  have L4 : ∀ (n : Nat) (x2_4 : Int32) (x1_4 : Int32) (oo : Int32 × Int32), f_X3_things_L4 spl smk n x2_4 x1_4 = some oo → ∀ (H : Heap) (locs : List Loc) (ls : Array Slot), va_P D vwCl [(sa, .inr (3, [.int sms, .int smf, .int spl, .ref sb])), (sb, .inl (cI, 8, .inl smk))] H → va_D A [(sa, .inr (3, [.int sms, .int smf, .int spl, .ref sb])), (sb, .inl (cI, 8, .inl smk))] → va_S A s.heap H locs → lv_has ls 3 [(2, .int x2_4), (1, .int x1_4), (0, .ref sa)] → (∀ (H : Heap) (locs : List Loc) (ls : Array Slot), va_P D vwCl [(sa, .inr (3, [.int sms, .int smf, .int spl, .ref sb])), (sb, .inl (cI, 8, .inl smk))] H → va_D A [(sa, .inr (3, [.int sms, .int smf, .int spl, .ref sb])), (sb, .inl (cI, 8, .inl smk))] → va_S A s.heap H locs → lv_has ls 3 [(2, .int oo.1), (1, .int oo.2), (0, .ref sa)] → W p l e { frames := 0, cells := 0, slots := 0, locals := 0 } s m args below meth c H locs 0 0 Q (F0 m 35 ls [])) → W p l e { frames := 0, cells := 0, slots := 0, locals := 0 } s m args below meth c H locs 0 0 Q (F0 m 4 ls []) := by
    intro n
    induction n with
    | zero => intro x2_4 x1_4 oo hf; exact absurd hf (by simp [f_X3_things_L4])
    | succ n ih =>
      intro x2_4 x1_4 oo hf H locs ls hP hD hS hl kk
      rw [f_X3_things_L4] at hf
      refine lv_iload_n hx hb dX3_things_4 rfl (lv_at hl 0 rfl) ?_
      refine lv_aload_n hx hb dX3_things_5 rfl (lv_at hl 2 rfl) ?_
      refine va_get (D := D) (ci := 3) (v := .int spl) (C := RX3) (T := TX3) (N := 4) hx hb hts w0 hown hK hP 0 rfl rfl 2 (by decide) w1 (fun _ h9 => h9) rfl dX3_things_6 ?_
      refine lv_icmp_ge (tgt := 35) hx hb dX3_things_9 (by decide) (fun c1 => ?_) (fun c1 => ?_)
      · have hf := if_p c1 hf
        have h1 := Option.some.inj hf
        subst h1
        exact kk H locs ls hP hD hS (lv_sub hl [0, 1, 2] rfl)
      · have hf := if_n c1 hf
        refine lv_iload_n hx hb dX3_things_12 rfl (lv_at hl 1 rfl) ?_
        refine lv_aload_n hx hb dX3_things_13 rfl (lv_at hl 2 rfl) ?_
        refine va_get (D := D) (ci := 3) (v := .ref sb) (C := RX3) (T := TX3) (N := 4) hx hb hts w0 hown hK hP 0 rfl rfl 3 (by decide) w2 (fun _ h9 => h9) rfl dX3_things_14 ?_
        refine lv_iload_n hx hb dX3_things_17 rfl (lv_at hl 0 rfl) ?_
        obtain ⟨g2, hf⟩ := gd_inv hf
        refine va_iald hx hb hK hP 1 2 rfl rfl g2 dX3_things_18 ?_
        refine lv_if_lt (tgt := 26) hx hb dX3_things_19 (by decide) (fun c3 => ?_) (fun c3 => ?_)
        · have hf := if_p c3 hf
          refine lv_iconst (v := 0) hx hb dX3_things_26 (by decide) ?_
          refine lv_iadd hx hb dX3_things_27 ?_
          refine lv_istore_n (lv' := [(1, .int (x1_4 + 0)), (2, .int x2_4), (0, .ref sa)]) hx hb dX3_things_28 rfl hl (by decide) rfl (fun ls hl => ?_)
          refine lv_iinc (v := x2_4 + 1) (lv' := [(2, .int (x2_4 + 1)), (1, .int (x1_4 + 0)), (0, .ref sa)]) hx hb dX3_things_29 hl (k := 1) rfl rfl (by decide) rfl (fun ls hl => ?_)
          refine lv_goto (tgt := 4) hx hb dX3_things_32 (by decide) ?_
          exact ih (x2_4 + 1) (x1_4 + 0) oo hf H locs ls hP hD hS (lv_sub hl [0, 1, 2] rfl) kk
        · have hf := if_n c3 hf
          refine lv_iconst (v := 1) hx hb dX3_things_22 (by decide) ?_
          refine lv_goto (tgt := 27) hx hb dX3_things_23 (by decide) ?_
          refine lv_iadd hx hb dX3_things_27 ?_
          refine lv_istore_n (lv' := [(1, .int (x1_4 + 1)), (2, .int x2_4), (0, .ref sa)]) hx hb dX3_things_28 rfl hl (by decide) rfl (fun ls hl => ?_)
          refine lv_iinc (v := x2_4 + 1) (lv' := [(2, .int (x2_4 + 1)), (1, .int (x1_4 + 1)), (0, .ref sa)]) hx hb dX3_things_29 hl (k := 1) rfl rfl (by decide) rfl (fun ls hl => ?_)
          refine lv_goto (tgt := 4) hx hb dX3_things_32 (by decide) ?_
          exact ih (x2_4 + 1) (x1_4 + 1) oo hf H locs ls hP hD hS (lv_sub hl [0, 1, 2] rfl) kk
  unfold f_X3_things at hf
  refine lv_iconst (v := 0) hx hb dX3_things_0 (by decide) ?_
  refine lv_istore_n (lv' := [(1, .int 0), (0, .ref sa)]) hx hb dX3_things_1 rfl hl (by decide) rfl (fun ls hl => ?_)
  refine lv_iconst (v := 0) hx hb dX3_things_2 (by decide) ?_
  refine lv_istore_n (lv' := [(2, .int 0), (1, .int 0), (0, .ref sa)]) hx hb dX3_things_3 rfl hl (by decide) rfl (fun ls hl => ?_)
  obtain ⟨⟨q4, q5⟩, hq6, hf⟩ := bd_inv hf
  refine L4 1000 0 0 (q4, q5) hq6 H locs ls hP hD hS (lv_sub hl [0, 1, 2] rfl) (fun H locs ls hP hD hS hl => ?_)
  have hP : va_P D vwCl [(sa, .inr (3, [.int sms, .int smf, .int spl, .ref sb])), (sb, .inl (cI, 8, .inl smk))] H := hP
  have hD : va_D A [(sa, .inr (3, [.int sms, .int smf, .int spl, .ref sb])), (sb, .inl (cI, 8, .inl smk))] := hD
  have hl : lv_has ls 3 [(2, .int q4), (1, .int q5), (0, .ref sa)] := hl
  refine lv_iload_n hx hb dX3_things_35 rfl (lv_at hl 1 rfl) ?_
  have h1 := Option.some.inj hf
  subst h1
  rw [hQ]
  exact W.iret (v := q5) hx hb hr (fun t ht hW => qEnd hP hS ht) hS.2.2 dX3_things_36
