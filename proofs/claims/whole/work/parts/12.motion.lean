def f_X2_copyFrom (mlsh : Nat → UInt32) (mlsb : Nat → UInt32) (mush : Nat → UInt32) (musb : Nat → UInt32) (mnm : Nat → Int32) (ntr : Int32) (nlst : Int32) (nlla : Int32) (nlbw : Int32) (nlbf : Int32) (nlbd : Int32) (nlsh : Nat → UInt32) (nlsb : Nat → UInt32) (nust : Int32) (nula : Int32) (nubw : Int32) (nubf : Int32) (nubd : Int32) (nush : Nat → UInt32) (nusb : Nat → UInt32) (nnm : Nat → Int32) : Option ((Nat → UInt32) × (Nat → UInt32) × (Nat → UInt32) × (Nat → UInt32) × (Nat → Int32) × Int32 × Int32 × Int32 × Int32 × Int32 × Int32 × Int32 × Int32 × Int32 × Int32 × Int32) := ((f_X1_copyFrom mlsh mlsb nlst nlla nlbw nlbf nlbd nlsh nlsb).bind fun (o1, o2, o3, o4, o5, o6, o7) => ((f_X1_copyFrom mush musb nust nula nubw nubf nubd nush nusb).bind fun (o9, o10, o11, o12, o13, o14, o15) => (some (o1, o2, o9, o10, (va_cpy nnm mnm 0 0 3), ntr, o3, o4, o5, o6, o7, o11, o12, o13, o14, o15))))
set_option maxRecDepth 100000 in
set_option maxHeartbeats 4000000 in
theorem c_X2_copyFrom (l : Launch) (D : va_G) (B : Nat) (adK adV : Nat → Nat) (cC cF cI cZ cM cS : ClassId) (ma : Nat) (mla : Nat) (mua : Nat) (mn : Nat) (mtr : Int32) (mlst : Int32) (mlla : Int32) (mlbw : Int32) (mlbf : Int32) (mlbd : Int32) (mlb : Nat) (mlc : Nat) (mlsh : Nat → UInt32) (mlsb : Nat → UInt32) (must : Int32) (mula : Int32) (mubw : Int32) (mubf : Int32) (mubd : Int32) (mub : Nat) (muc : Nat) (mush : Nat → UInt32) (musb : Nat → UInt32) (mnm : Nat → Int32) (na : Nat) (nla : Nat) (nua : Nat) (nn : Nat) (ntr : Int32) (nlst : Int32) (nlla : Int32) (nlbw : Int32) (nlbf : Int32) (nlbd : Int32) (nlb : Nat) (nlc : Nat) (nlsh : Nat → UInt32) (nlsb : Nat → UInt32) (nust : Int32) (nula : Int32) (nubw : Int32) (nubf : Int32) (nubd : Int32) (nub : Nat) (nuc : Nat) (nush : Nat → UInt32) (nusb : Nat → UInt32) (nnm : Nat → Int32) (z_mlsh : Nat → UInt32) (z_mlsb : Nat → UInt32) (z_mush : Nat → UInt32) (z_musb : Nat → UInt32) (z_mnm : Nat → Int32) (z_mtr : Int32) (z_mlst : Int32) (z_mlla : Int32) (z_mlbw : Int32) (z_mlbf : Int32) (z_mlbd : Int32) (z_must : Int32) (z_mula : Int32) (z_mubw : Int32) (z_mubf : Int32) (z_mubd : Int32) (hf : f_X2_copyFrom mlsh mlsb mush musb mnm ntr nlst nlla nlbw nlbf nlbd nlsh nlsb nust nula nubw nubf nubd nush nusb nnm = some (z_mlsh, z_mlsb, z_mush, z_musb, z_mnm, z_mtr, z_mlst, z_mlla, z_mlbw, z_mlbf, z_mlbd, z_must, z_mula, z_mubw, z_mubf, z_mubd)) : Ct l yX2_copyFrom wsX2_copyFrom { frames := 2, cells := 0, slots := 0, locals := 89 } D B adK adV (tysX cC cF cI cZ cM cS) [.ref ma, .ref na] [(ma, .inr (2, [.ref mla, .ref mua, .ref mn, .int mtr])), (mla, .inr (1, [.int mlst, .int mlla, .int mlbw, .int mlbf, .int mlbd, .ref mlb, .ref mlc])), (mlb, .inl (cF, 6, .inr (.inr (.inl mlsh)))), (mlc, .inl (cF, 6, .inr (.inr (.inl mlsb)))), (mua, .inr (1, [.int must, .int mula, .int mubw, .int mubf, .int mubd, .ref mub, .ref muc])), (mub, .inl (cF, 6, .inr (.inr (.inl mush)))), (muc, .inl (cF, 6, .inr (.inr (.inl musb)))), (mn, .inl (cI, 3, .inl mnm)), (na, .inr (2, [.ref nla, .ref nua, .ref nn, .int ntr])), (nla, .inr (1, [.int nlst, .int nlla, .int nlbw, .int nlbf, .int nlbd, .ref nlb, .ref nlc])), (nlb, .inl (cF, 6, .inr (.inr (.inl nlsh)))), (nlc, .inl (cF, 6, .inr (.inr (.inl nlsb)))), (nua, .inr (1, [.int nust, .int nula, .int nubw, .int nubf, .int nubd, .ref nub, .ref nuc])), (nub, .inl (cF, 6, .inr (.inr (.inl nush)))), (nuc, .inl (cF, 6, .inr (.inr (.inl nusb)))), (nn, .inl (cI, 3, .inl nnm))] [(ma, .inr (2, [.ref mla, .ref mua, .ref mn, .int z_mtr])), (mla, .inr (1, [.int z_mlst, .int z_mlla, .int z_mlbw, .int z_mlbf, .int z_mlbd, .ref mlb, .ref mlc])), (mlb, .inl (cF, 6, .inr (.inr (.inl z_mlsh)))), (mlc, .inl (cF, 6, .inr (.inr (.inl z_mlsb)))), (mua, .inr (1, [.int z_must, .int z_mula, .int z_mubw, .int z_mubf, .int z_mubd, .ref mub, .ref muc])), (mub, .inl (cF, 6, .inr (.inr (.inl z_mush)))), (muc, .inl (cF, 6, .inr (.inr (.inl z_musb)))), (mn, .inl (cI, 3, .inl z_mnm)), (na, .inr (2, [.ref nla, .ref nua, .ref nn, .int ntr])), (nla, .inr (1, [.int nlst, .int nlla, .int nlbw, .int nlbf, .int nlbd, .ref nlb, .ref nlc])), (nlb, .inl (cF, 6, .inr (.inr (.inl nlsh)))), (nlc, .inl (cF, 6, .inr (.inr (.inl nlsb)))), (nua, .inr (1, [.int nust, .int nula, .int nubw, .int nubf, .int nubd, .ref nub, .ref nuc])), (nub, .inl (cF, 6, .inr (.inr (.inl nush)))), (nuc, .inl (cF, 6, .inr (.inr (.inl nusb)))), (nn, .inl (cI, 3, .inl nnm))] none := by
  refine Ct.ofW (cc := cX2_copyFrom) (maxL := 2) (ret := none) (by decide) rfl (Nat.le_of_ble_eq_true rfl) ?_
  intro p e s m args below meth c hx hb hr hml hts hown hlocks hnm hK hE A Q hQ hB H locs ls hP hD hS hl
  have hl : lv_has ls 2 [(0, .ref ma), (1, .ref na)] := hl
  have w0 : ∀ w ∈ u_ws RX2 TX2 4, w ∈ wsX2_copyFrom := by decide +kernel
  have w1 := hts (.fieldLink RX2 12 "MotionStates$Motion" "lower" "LMotionStates$Layer;") (by decide +kernel)
  have w2 := hts (.fieldLink RX2 18 "MotionStates$Motion" "upper" "LMotionStates$Layer;") (by decide +kernel)
  have w3 := hts (.fieldLink RX2 21 "MotionStates$Motion" "numbers" "[I") (by decide +kernel)
  have w4 := hts (.methodLink RX2 29 arraycopyName) (by decide +kernel)
  have w5 := hts (.native arraycopyName) (by decide +kernel)
  have w6 := hts (.static arraycopyName) (by decide +kernel)
  have w7 := hts (.initialized "java/lang/System") (by decide +kernel)
  have w8 := hts (.fieldLink RX2 35 "MotionStates$Motion" "triggers" "I") (by decide +kernel)
  unfold f_X2_copyFrom at hf
  refine lv_aload_n hx hb dX2_copyFrom_0 rfl (lv_at hl 0 rfl) ?_
  refine va_get (D := D) (ci := 2) (v := .ref mla) (C := RX2) (T := TX2) (N := 4) hx hb hts w0 hown hK hP 0 rfl rfl 0 (by decide) w1 (fun _ h9 => h9) rfl dX2_copyFrom_1 ?_
  refine lv_aload_n hx hb dX2_copyFrom_4 rfl (lv_at hl 1 rfl) ?_
  refine va_get (D := D) (ci := 2) (v := .ref nla) (C := RX2) (T := TX2) (N := 4) hx hb hts w0 hown hK hP 8 rfl rfl 0 (by decide) w1 (fun _ h9 => h9) rfl dX2_copyFrom_5 ?_
  obtain ⟨⟨o1, o2, o3, o4, o5, o6, o7⟩, hc8, hf⟩ := bd_inv hf
  refine xcV (As := [.ref nla]) (rest := []) (ws' := [(ma, .inr (2, [.ref mla, .ref mua, .ref mn, .int mtr])), (mla, .inr (1, [.int o3, .int o4, .int o5, .int o6, .int o7, .ref mlb, .ref mlc])), (mlb, .inl (cF, 6, .inr (.inr (.inl o1)))), (mlc, .inl (cF, 6, .inr (.inr (.inl o2)))), (mua, .inr (1, [.int must, .int mula, .int mubw, .int mubf, .int mubd, .ref mub, .ref muc])), (mub, .inl (cF, 6, .inr (.inr (.inl mush)))), (muc, .inl (cF, 6, .inr (.inr (.inl musb)))), (mn, .inl (cI, 3, .inl mnm)), (na, .inr (2, [.ref nla, .ref nua, .ref nn, .int ntr])), (nla, .inr (1, [.int nlst, .int nlla, .int nlbw, .int nlbf, .int nlbd, .ref nlb, .ref nlc])), (nlb, .inl (cF, 6, .inr (.inr (.inl nlsh)))), (nlc, .inl (cF, 6, .inr (.inr (.inl nlsb)))), (nua, .inr (1, [.int nust, .int nula, .int nubw, .int nubf, .int nubd, .ref nub, .ref nuc])), (nub, .inl (cF, 6, .inr (.inr (.inl nush)))), (nuc, .inl (cF, 6, .inr (.inr (.inl nusb)))), (nn, .inl (cI, 3, .inl nnm))]) ⟨hx, hb, hml, hown, hts⟩ (c_X1_copyFrom l D B adK adV cC cF cI cZ cM cS mla mlst mlla mlbw mlbf mlbd mlb mlc mlsh mlsb nla nlst nlla nlbw nlbf nlbd nlb nlc nlsh nlsb  o1 o2 o3 o4 o5 o6 o7 hc8) (cwV 1 hts gX2_copyFrom_X1_copyFrom rfl rfl rfl (by decide +kernel) ⟨Nat.le_of_ble_eq_true rfl, Nat.le_of_ble_eq_true rfl⟩) (va_recv hK hP (ci := 1) (q0 := 1) rfl rfl) hK hP hD hS hB hE [1, 2, 3, 9, 10, 11] rfl rfl rfl rfl rfl hl.1 rfl (Nat.le_of_ble_eq_true rfl) dX2_copyFrom_8 ⟨Nat.le_of_ble_eq_true rfl, Nat.le_of_ble_eq_true rfl⟩ (fun H locs hP hD hS => ?_)
  refine W.eq (g2 := F0 m 11 ls []) rfl ?_
  refine lv_aload_n hx hb dX2_copyFrom_11 rfl (lv_at hl 0 rfl) ?_
  refine va_get (D := D) (ci := 2) (v := .ref mua) (C := RX2) (T := TX2) (N := 4) hx hb hts w0 hown hK hP 0 rfl rfl 1 (by decide) w2 (fun _ h9 => h9) rfl dX2_copyFrom_12 ?_
  refine lv_aload_n hx hb dX2_copyFrom_15 rfl (lv_at hl 1 rfl) ?_
  refine va_get (D := D) (ci := 2) (v := .ref nua) (C := RX2) (T := TX2) (N := 4) hx hb hts w0 hown hK hP 8 rfl rfl 1 (by decide) w2 (fun _ h9 => h9) rfl dX2_copyFrom_16 ?_
  obtain ⟨⟨o9, o10, o11, o12, o13, o14, o15⟩, hc16, hf⟩ := bd_inv hf
  refine xcV (As := [.ref nua]) (rest := []) (ws' := [(ma, .inr (2, [.ref mla, .ref mua, .ref mn, .int mtr])), (mla, .inr (1, [.int o3, .int o4, .int o5, .int o6, .int o7, .ref mlb, .ref mlc])), (mlb, .inl (cF, 6, .inr (.inr (.inl o1)))), (mlc, .inl (cF, 6, .inr (.inr (.inl o2)))), (mua, .inr (1, [.int o11, .int o12, .int o13, .int o14, .int o15, .ref mub, .ref muc])), (mub, .inl (cF, 6, .inr (.inr (.inl o9)))), (muc, .inl (cF, 6, .inr (.inr (.inl o10)))), (mn, .inl (cI, 3, .inl mnm)), (na, .inr (2, [.ref nla, .ref nua, .ref nn, .int ntr])), (nla, .inr (1, [.int nlst, .int nlla, .int nlbw, .int nlbf, .int nlbd, .ref nlb, .ref nlc])), (nlb, .inl (cF, 6, .inr (.inr (.inl nlsh)))), (nlc, .inl (cF, 6, .inr (.inr (.inl nlsb)))), (nua, .inr (1, [.int nust, .int nula, .int nubw, .int nubf, .int nubd, .ref nub, .ref nuc])), (nub, .inl (cF, 6, .inr (.inr (.inl nush)))), (nuc, .inl (cF, 6, .inr (.inr (.inl nusb)))), (nn, .inl (cI, 3, .inl nnm))]) ⟨hx, hb, hml, hown, hts⟩ (c_X1_copyFrom l D B adK adV cC cF cI cZ cM cS mua must mula mubw mubf mubd mub muc mush musb nua nust nula nubw nubf nubd nub nuc nush nusb  o9 o10 o11 o12 o13 o14 o15 hc16) (cwV 1 hts gX2_copyFrom_X1_copyFrom rfl rfl rfl (by decide +kernel) ⟨Nat.le_of_ble_eq_true rfl, Nat.le_of_ble_eq_true rfl⟩) (va_recv hK hP (ci := 1) (q0 := 4) rfl rfl) hK hP hD hS hB hE [4, 5, 6, 12, 13, 14] rfl rfl rfl rfl rfl hl.1 rfl (Nat.le_of_ble_eq_true rfl) dX2_copyFrom_19 ⟨Nat.le_of_ble_eq_true rfl, Nat.le_of_ble_eq_true rfl⟩ (fun H locs hP hD hS => ?_)
  refine W.eq (g2 := F0 m 22 ls []) rfl ?_
  refine lv_aload_n hx hb dX2_copyFrom_22 rfl (lv_at hl 1 rfl) ?_
  refine va_get (D := D) (ci := 2) (v := .ref nn) (C := RX2) (T := TX2) (N := 4) hx hb hts w0 hown hK hP 8 rfl rfl 2 (by decide) w3 (fun _ h9 => h9) rfl dX2_copyFrom_23 ?_
  refine lv_iconst (v := 0) hx hb dX2_copyFrom_26 (by decide) ?_
  refine lv_aload_n hx hb dX2_copyFrom_27 rfl (lv_at hl 0 rfl) ?_
  refine va_get (D := D) (ci := 2) (v := .ref mn) (C := RX2) (T := TX2) (N := 4) hx hb hts w0 hown hK hP 0 rfl rfl 2 (by decide) w3 (fun _ h9 => h9) rfl dX2_copyFrom_28 ?_
  refine lv_iconst (v := 0) hx hb dX2_copyFrom_31 (by decide) ?_
  refine lv_iconst (v := 3) hx hb dX2_copyFrom_32 (by decide) ?_
  refine va_copyi hx hb (hml.trans hl.1.symm) hown w4 w5 w6 w7 hK hP hD hS 15 7 2 2 rfl rfl rfl rfl rfl (by decide) (by decide) (by decide) (by decide) (by decide) (fun _ _ => rfl) (Nat.le_of_ble_eq_true rfl) (Nat.le_of_ble_eq_true rfl) dX2_copyFrom_33 (fun H locs hP hD hS => ?_)
  have hP : va_P D vwCl [(ma, .inr (2, [.ref mla, .ref mua, .ref mn, .int mtr])), (mla, .inr (1, [.int o3, .int o4, .int o5, .int o6, .int o7, .ref mlb, .ref mlc])), (mlb, .inl (cF, 6, .inr (.inr (.inl o1)))), (mlc, .inl (cF, 6, .inr (.inr (.inl o2)))), (mua, .inr (1, [.int o11, .int o12, .int o13, .int o14, .int o15, .ref mub, .ref muc])), (mub, .inl (cF, 6, .inr (.inr (.inl o9)))), (muc, .inl (cF, 6, .inr (.inr (.inl o10)))), (mn, .inl (cI, 3, .inl (va_cpy nnm mnm 0 0 3))), (na, .inr (2, [.ref nla, .ref nua, .ref nn, .int ntr])), (nla, .inr (1, [.int nlst, .int nlla, .int nlbw, .int nlbf, .int nlbd, .ref nlb, .ref nlc])), (nlb, .inl (cF, 6, .inr (.inr (.inl nlsh)))), (nlc, .inl (cF, 6, .inr (.inr (.inl nlsb)))), (nua, .inr (1, [.int nust, .int nula, .int nubw, .int nubf, .int nubd, .ref nub, .ref nuc])), (nub, .inl (cF, 6, .inr (.inr (.inl nush)))), (nuc, .inl (cF, 6, .inr (.inr (.inl nusb)))), (nn, .inl (cI, 3, .inl nnm))] H := hP
  have hD : va_D A [(ma, .inr (2, [.ref mla, .ref mua, .ref mn, .int mtr])), (mla, .inr (1, [.int o3, .int o4, .int o5, .int o6, .int o7, .ref mlb, .ref mlc])), (mlb, .inl (cF, 6, .inr (.inr (.inl o1)))), (mlc, .inl (cF, 6, .inr (.inr (.inl o2)))), (mua, .inr (1, [.int o11, .int o12, .int o13, .int o14, .int o15, .ref mub, .ref muc])), (mub, .inl (cF, 6, .inr (.inr (.inl o9)))), (muc, .inl (cF, 6, .inr (.inr (.inl o10)))), (mn, .inl (cI, 3, .inl (va_cpy nnm mnm 0 0 3))), (na, .inr (2, [.ref nla, .ref nua, .ref nn, .int ntr])), (nla, .inr (1, [.int nlst, .int nlla, .int nlbw, .int nlbf, .int nlbd, .ref nlb, .ref nlc])), (nlb, .inl (cF, 6, .inr (.inr (.inl nlsh)))), (nlc, .inl (cF, 6, .inr (.inr (.inl nlsb)))), (nua, .inr (1, [.int nust, .int nula, .int nubw, .int nubf, .int nubd, .ref nub, .ref nuc])), (nub, .inl (cF, 6, .inr (.inr (.inl nush)))), (nuc, .inl (cF, 6, .inr (.inr (.inl nusb)))), (nn, .inl (cI, 3, .inl nnm))] := hD
  refine lv_aload_n hx hb dX2_copyFrom_36 rfl (lv_at hl 0 rfl) ?_
  refine lv_aload_n hx hb dX2_copyFrom_37 rfl (lv_at hl 1 rfl) ?_
  refine va_get (D := D) (ci := 2) (v := .int ntr) (C := RX2) (T := TX2) (N := 4) hx hb hts w0 hown hK hP 8 rfl rfl 3 (by decide) w8 (fun _ h9 => h9) rfl dX2_copyFrom_38 ?_
  refine va_put (D := D) (ci := 2) (v := .int ntr) (ty := .int) (C := RX2) (T := TX2) (N := 4) hx hb hts w0 tyX2 tyX2_ok nmX2 hown hK hP hD hS 0 rfl rfl 3 (by decide) w8 (fun _ h9 => h9) rfl (by decide +kernel) rfl rfl (Nat.le_of_ble_eq_true rfl) dX2_copyFrom_41 (fun H locs hP hD hS => ?_)
  have hP : va_P D vwCl [(ma, .inr (2, [.ref mla, .ref mua, .ref mn, .int ntr])), (mla, .inr (1, [.int o3, .int o4, .int o5, .int o6, .int o7, .ref mlb, .ref mlc])), (mlb, .inl (cF, 6, .inr (.inr (.inl o1)))), (mlc, .inl (cF, 6, .inr (.inr (.inl o2)))), (mua, .inr (1, [.int o11, .int o12, .int o13, .int o14, .int o15, .ref mub, .ref muc])), (mub, .inl (cF, 6, .inr (.inr (.inl o9)))), (muc, .inl (cF, 6, .inr (.inr (.inl o10)))), (mn, .inl (cI, 3, .inl (va_cpy nnm mnm 0 0 3))), (na, .inr (2, [.ref nla, .ref nua, .ref nn, .int ntr])), (nla, .inr (1, [.int nlst, .int nlla, .int nlbw, .int nlbf, .int nlbd, .ref nlb, .ref nlc])), (nlb, .inl (cF, 6, .inr (.inr (.inl nlsh)))), (nlc, .inl (cF, 6, .inr (.inr (.inl nlsb)))), (nua, .inr (1, [.int nust, .int nula, .int nubw, .int nubf, .int nubd, .ref nub, .ref nuc])), (nub, .inl (cF, 6, .inr (.inr (.inl nush)))), (nuc, .inl (cF, 6, .inr (.inr (.inl nusb)))), (nn, .inl (cI, 3, .inl nnm))] H := hP
  have hD : va_D A [(ma, .inr (2, [.ref mla, .ref mua, .ref mn, .int ntr])), (mla, .inr (1, [.int o3, .int o4, .int o5, .int o6, .int o7, .ref mlb, .ref mlc])), (mlb, .inl (cF, 6, .inr (.inr (.inl o1)))), (mlc, .inl (cF, 6, .inr (.inr (.inl o2)))), (mua, .inr (1, [.int o11, .int o12, .int o13, .int o14, .int o15, .ref mub, .ref muc])), (mub, .inl (cF, 6, .inr (.inr (.inl o9)))), (muc, .inl (cF, 6, .inr (.inr (.inl o10)))), (mn, .inl (cI, 3, .inl (va_cpy nnm mnm 0 0 3))), (na, .inr (2, [.ref nla, .ref nua, .ref nn, .int ntr])), (nla, .inr (1, [.int nlst, .int nlla, .int nlbw, .int nlbf, .int nlbd, .ref nlb, .ref nlc])), (nlb, .inl (cF, 6, .inr (.inr (.inl nlsh)))), (nlc, .inl (cF, 6, .inr (.inr (.inl nlsb)))), (nua, .inr (1, [.int nust, .int nula, .int nubw, .int nubf, .int nubd, .ref nub, .ref nuc])), (nub, .inl (cF, 6, .inr (.inr (.inl nush)))), (nuc, .inl (cF, 6, .inr (.inr (.inl nusb)))), (nn, .inl (cI, 3, .inl nnm))] := hD
  have e0 : o1 = z_mlsh := (Prod.mk.inj (Option.some.inj hf)).1
  have e1 : o2 = z_mlsb := (Prod.mk.inj (Prod.mk.inj (Option.some.inj hf)).2).1
  have e2 : o9 = z_mush := (Prod.mk.inj (Prod.mk.inj (Prod.mk.inj (Option.some.inj hf)).2).2).1
  have e3 : o10 = z_musb := (Prod.mk.inj (Prod.mk.inj (Prod.mk.inj (Prod.mk.inj (Option.some.inj hf)).2).2).2).1
  have e4 : (va_cpy nnm mnm 0 0 3) = z_mnm := (Prod.mk.inj (Prod.mk.inj (Prod.mk.inj (Prod.mk.inj (Prod.mk.inj (Option.some.inj hf)).2).2).2).2).1
  have e5 : ntr = z_mtr := (Prod.mk.inj (Prod.mk.inj (Prod.mk.inj (Prod.mk.inj (Prod.mk.inj (Prod.mk.inj (Option.some.inj hf)).2).2).2).2).2).1
  have e6 : o3 = z_mlst := (Prod.mk.inj (Prod.mk.inj (Prod.mk.inj (Prod.mk.inj (Prod.mk.inj (Prod.mk.inj (Prod.mk.inj (Option.some.inj hf)).2).2).2).2).2).2).1
  have e7 : o4 = z_mlla := (Prod.mk.inj (Prod.mk.inj (Prod.mk.inj (Prod.mk.inj (Prod.mk.inj (Prod.mk.inj (Prod.mk.inj (Prod.mk.inj (Option.some.inj hf)).2).2).2).2).2).2).2).1
  have e8 : o5 = z_mlbw := (Prod.mk.inj (Prod.mk.inj (Prod.mk.inj (Prod.mk.inj (Prod.mk.inj (Prod.mk.inj (Prod.mk.inj (Prod.mk.inj (Prod.mk.inj (Option.some.inj hf)).2).2).2).2).2).2).2).2).1
  have e9 : o6 = z_mlbf := (Prod.mk.inj (Prod.mk.inj (Prod.mk.inj (Prod.mk.inj (Prod.mk.inj (Prod.mk.inj (Prod.mk.inj (Prod.mk.inj (Prod.mk.inj (Prod.mk.inj (Option.some.inj hf)).2).2).2).2).2).2).2).2).2).1
  have e10 : o7 = z_mlbd := (Prod.mk.inj (Prod.mk.inj (Prod.mk.inj (Prod.mk.inj (Prod.mk.inj (Prod.mk.inj (Prod.mk.inj (Prod.mk.inj (Prod.mk.inj (Prod.mk.inj (Prod.mk.inj (Option.some.inj hf)).2).2).2).2).2).2).2).2).2).2).1
  have e11 : o11 = z_must := (Prod.mk.inj (Prod.mk.inj (Prod.mk.inj (Prod.mk.inj (Prod.mk.inj (Prod.mk.inj (Prod.mk.inj (Prod.mk.inj (Prod.mk.inj (Prod.mk.inj (Prod.mk.inj (Prod.mk.inj (Option.some.inj hf)).2).2).2).2).2).2).2).2).2).2).2).1
  have e12 : o12 = z_mula := (Prod.mk.inj (Prod.mk.inj (Prod.mk.inj (Prod.mk.inj (Prod.mk.inj (Prod.mk.inj (Prod.mk.inj (Prod.mk.inj (Prod.mk.inj (Prod.mk.inj (Prod.mk.inj (Prod.mk.inj (Prod.mk.inj (Option.some.inj hf)).2).2).2).2).2).2).2).2).2).2).2).2).1
  have e13 : o13 = z_mubw := (Prod.mk.inj (Prod.mk.inj (Prod.mk.inj (Prod.mk.inj (Prod.mk.inj (Prod.mk.inj (Prod.mk.inj (Prod.mk.inj (Prod.mk.inj (Prod.mk.inj (Prod.mk.inj (Prod.mk.inj (Prod.mk.inj (Prod.mk.inj (Option.some.inj hf)).2).2).2).2).2).2).2).2).2).2).2).2).2).1
  have e14 : o14 = z_mubf := (Prod.mk.inj (Prod.mk.inj (Prod.mk.inj (Prod.mk.inj (Prod.mk.inj (Prod.mk.inj (Prod.mk.inj (Prod.mk.inj (Prod.mk.inj (Prod.mk.inj (Prod.mk.inj (Prod.mk.inj (Prod.mk.inj (Prod.mk.inj (Prod.mk.inj (Option.some.inj hf)).2).2).2).2).2).2).2).2).2).2).2).2).2).2).1
  have e15 : o15 = z_mubd := (Prod.mk.inj (Prod.mk.inj (Prod.mk.inj (Prod.mk.inj (Prod.mk.inj (Prod.mk.inj (Prod.mk.inj (Prod.mk.inj (Prod.mk.inj (Prod.mk.inj (Prod.mk.inj (Prod.mk.inj (Prod.mk.inj (Prod.mk.inj (Prod.mk.inj (Option.some.inj hf)).2).2).2).2).2).2).2).2).2).2).2).2).2).2).2
  subst e0
  subst e1
  subst e2
  subst e3
  subst e4
  subst e5
  subst e6
  subst e7
  subst e8
  subst e9
  subst e10
  subst e11
  subst e12
  subst e13
  subst e14
  subst e15
  rw [hQ]
  exact W.vret hx hb hr (fun t ht hW => qEnd hP hS ht) hS.2.2 dX2_copyFrom_44
def f_X2_reset (mlsh : Nat → UInt32) (mush : Nat → UInt32) (mnm : Nat → Int32) : Option ((Nat → UInt32) × (Nat → UInt32) × (Nat → Int32) × Int32 × Int32 × Int32 × Int32 × Int32 × Int32 × Int32 × Int32 × Int32 × Int32 × Int32) := ((f_X1_reset mlsh).bind fun (o1, o2, o3, o4, o5, o6) => ((f_X1_reset mush).bind fun (o8, o9, o10, o11, o12, o13) => ((f_J7_fill_53178 mnm 3 0).bind fun o15 => (some (o1, o8, o15, 0, o2, o3, o4, o5, o6, o9, o10, o11, o12, o13)))))
set_option maxRecDepth 100000 in
set_option maxHeartbeats 4000000 in
theorem c_X2_reset (l : Launch) (D : va_G) (B : Nat) (adK adV : Nat → Nat) (cC cF cI cZ cM cS : ClassId) (ma : Nat) (mla : Nat) (mua : Nat) (mn : Nat) (mtr : Int32) (mlst : Int32) (mlla : Int32) (mlbw : Int32) (mlbf : Int32) (mlbd : Int32) (mlb : Nat) (mlc : Nat) (mlsh : Nat → UInt32) (mlsb : Nat → UInt32) (must : Int32) (mula : Int32) (mubw : Int32) (mubf : Int32) (mubd : Int32) (mub : Nat) (muc : Nat) (mush : Nat → UInt32) (musb : Nat → UInt32) (mnm : Nat → Int32) (z_mlsh : Nat → UInt32) (z_mush : Nat → UInt32) (z_mnm : Nat → Int32) (z_mtr : Int32) (z_mlst : Int32) (z_mlla : Int32) (z_mlbw : Int32) (z_mlbf : Int32) (z_mlbd : Int32) (z_must : Int32) (z_mula : Int32) (z_mubw : Int32) (z_mubf : Int32) (z_mubd : Int32) (hf : f_X2_reset mlsh mush mnm = some (z_mlsh, z_mush, z_mnm, z_mtr, z_mlst, z_mlla, z_mlbw, z_mlbf, z_mlbd, z_must, z_mula, z_mubw, z_mubf, z_mubd)) : Ct l yX2_reset wsX2_reset { frames := 3, cells := 0, slots := 0, locals := 63 } D B adK adV (tysX cC cF cI cZ cM cS) [.ref ma] [(ma, .inr (2, [.ref mla, .ref mua, .ref mn, .int mtr])), (mla, .inr (1, [.int mlst, .int mlla, .int mlbw, .int mlbf, .int mlbd, .ref mlb, .ref mlc])), (mlb, .inl (cF, 6, .inr (.inr (.inl mlsh)))), (mlc, .inl (cF, 6, .inr (.inr (.inl mlsb)))), (mua, .inr (1, [.int must, .int mula, .int mubw, .int mubf, .int mubd, .ref mub, .ref muc])), (mub, .inl (cF, 6, .inr (.inr (.inl mush)))), (muc, .inl (cF, 6, .inr (.inr (.inl musb)))), (mn, .inl (cI, 3, .inl mnm))] [(ma, .inr (2, [.ref mla, .ref mua, .ref mn, .int z_mtr])), (mla, .inr (1, [.int z_mlst, .int z_mlla, .int z_mlbw, .int z_mlbf, .int z_mlbd, .ref mlb, .ref mlc])), (mlb, .inl (cF, 6, .inr (.inr (.inl z_mlsh)))), (mlc, .inl (cF, 6, .inr (.inr (.inl mlsb)))), (mua, .inr (1, [.int z_must, .int z_mula, .int z_mubw, .int z_mubf, .int z_mubd, .ref mub, .ref muc])), (mub, .inl (cF, 6, .inr (.inr (.inl z_mush)))), (muc, .inl (cF, 6, .inr (.inr (.inl musb)))), (mn, .inl (cI, 3, .inl z_mnm))] none := by
  refine Ct.ofW (cc := cX2_reset) (maxL := 1) (ret := none) (by decide) rfl (Nat.le_of_ble_eq_true rfl) ?_
  intro p e s m args below meth c hx hb hr hml hts hown hlocks hnm hK hE A Q hQ hB H locs ls hP hD hS hl
  have hl : lv_has ls 1 [(0, .ref ma)] := hl
  have w0 : ∀ w ∈ u_ws RX2 TX2 4, w ∈ wsX2_reset := by decide +kernel
  have w1 := hts (.fieldLink RX2 12 "MotionStates$Motion" "lower" "LMotionStates$Layer;") (by decide +kernel)
  have w2 := hts (.fieldLink RX2 18 "MotionStates$Motion" "upper" "LMotionStates$Layer;") (by decide +kernel)
  have w3 := hts (.fieldLink RX2 21 "MotionStates$Motion" "numbers" "[I") (by decide +kernel)
  have w4 := hts (.fieldLink RX2 35 "MotionStates$Motion" "triggers" "I") (by decide +kernel)
  unfold f_X2_reset at hf
  refine lv_aload_n hx hb dX2_reset_0 rfl (lv_at hl 0 rfl) ?_
  refine va_get (D := D) (ci := 2) (v := .ref mla) (C := RX2) (T := TX2) (N := 4) hx hb hts w0 hown hK hP 0 rfl rfl 0 (by decide) w1 (fun _ h9 => h9) rfl dX2_reset_1 ?_
  obtain ⟨⟨o1, o2, o3, o4, o5, o6⟩, hc7, hf⟩ := bd_inv hf
  refine xcV (As := []) (rest := []) (ws' := [(ma, .inr (2, [.ref mla, .ref mua, .ref mn, .int mtr])), (mla, .inr (1, [.int o2, .int o3, .int o4, .int o5, .int o6, .ref mlb, .ref mlc])), (mlb, .inl (cF, 6, .inr (.inr (.inl o1)))), (mlc, .inl (cF, 6, .inr (.inr (.inl mlsb)))), (mua, .inr (1, [.int must, .int mula, .int mubw, .int mubf, .int mubd, .ref mub, .ref muc])), (mub, .inl (cF, 6, .inr (.inr (.inl mush)))), (muc, .inl (cF, 6, .inr (.inr (.inl musb)))), (mn, .inl (cI, 3, .inl mnm))]) ⟨hx, hb, hml, hown, hts⟩ (c_X1_reset l D B adK adV cC cF cI cZ cM cS mla mlst mlla mlbw mlbf mlbd mlb mlc mlsh mlsb  o1 o2 o3 o4 o5 o6 hc7) (cwV 0 hts gX2_reset_X1_reset rfl rfl rfl (by decide +kernel) ⟨Nat.le_of_ble_eq_true rfl, Nat.le_of_ble_eq_true rfl⟩) (va_recv hK hP (ci := 1) (q0 := 1) rfl rfl) hK hP hD hS hB hE [1, 2, 3] rfl rfl rfl rfl rfl hl.1 rfl (Nat.le_of_ble_eq_true rfl) dX2_reset_4 ⟨Nat.le_of_ble_eq_true rfl, Nat.le_of_ble_eq_true rfl⟩ (fun H locs hP hD hS => ?_)
  refine W.eq (g2 := F0 m 7 ls []) rfl ?_
  refine lv_aload_n hx hb dX2_reset_7 rfl (lv_at hl 0 rfl) ?_
  refine va_get (D := D) (ci := 2) (v := .ref mua) (C := RX2) (T := TX2) (N := 4) hx hb hts w0 hown hK hP 0 rfl rfl 1 (by decide) w2 (fun _ h9 => h9) rfl dX2_reset_8 ?_
  obtain ⟨⟨o8, o9, o10, o11, o12, o13⟩, hc14, hf⟩ := bd_inv hf
  refine xcV (As := []) (rest := []) (ws' := [(ma, .inr (2, [.ref mla, .ref mua, .ref mn, .int mtr])), (mla, .inr (1, [.int o2, .int o3, .int o4, .int o5, .int o6, .ref mlb, .ref mlc])), (mlb, .inl (cF, 6, .inr (.inr (.inl o1)))), (mlc, .inl (cF, 6, .inr (.inr (.inl mlsb)))), (mua, .inr (1, [.int o9, .int o10, .int o11, .int o12, .int o13, .ref mub, .ref muc])), (mub, .inl (cF, 6, .inr (.inr (.inl o8)))), (muc, .inl (cF, 6, .inr (.inr (.inl musb)))), (mn, .inl (cI, 3, .inl mnm))]) ⟨hx, hb, hml, hown, hts⟩ (c_X1_reset l D B adK adV cC cF cI cZ cM cS mua must mula mubw mubf mubd mub muc mush musb  o8 o9 o10 o11 o12 o13 hc14) (cwV 0 hts gX2_reset_X1_reset rfl rfl rfl (by decide +kernel) ⟨Nat.le_of_ble_eq_true rfl, Nat.le_of_ble_eq_true rfl⟩) (va_recv hK hP (ci := 1) (q0 := 4) rfl rfl) hK hP hD hS hB hE [4, 5, 6] rfl rfl rfl rfl rfl hl.1 rfl (Nat.le_of_ble_eq_true rfl) dX2_reset_11 ⟨Nat.le_of_ble_eq_true rfl, Nat.le_of_ble_eq_true rfl⟩ (fun H locs hP hD hS => ?_)
  refine W.eq (g2 := F0 m 14 ls []) rfl ?_
  refine lv_aload_n hx hb dX2_reset_14 rfl (lv_at hl 0 rfl) ?_
  refine va_get (D := D) (ci := 2) (v := .ref mn) (C := RX2) (T := TX2) (N := 4) hx hb hts w0 hown hK hP 0 rfl rfl 2 (by decide) w3 (fun _ h9 => h9) rfl dX2_reset_15 ?_
  refine lv_iconst (v := 0) hx hb dX2_reset_18 (by decide) ?_
  obtain ⟨o15, hc16, hf⟩ := bd_inv hf
  refine xcS (As := [.ref mn, .int 0]) (rest := []) (ws' := [(ma, .inr (2, [.ref mla, .ref mua, .ref mn, .int mtr])), (mla, .inr (1, [.int o2, .int o3, .int o4, .int o5, .int o6, .ref mlb, .ref mlc])), (mlb, .inl (cF, 6, .inr (.inr (.inl o1)))), (mlc, .inl (cF, 6, .inr (.inr (.inl mlsb)))), (mua, .inr (1, [.int o9, .int o10, .int o11, .int o12, .int o13, .ref mub, .ref muc])), (mub, .inl (cF, 6, .inr (.inr (.inl o8)))), (muc, .inl (cF, 6, .inr (.inr (.inl musb)))), (mn, .inl (cI, 3, .inl o15))]) ⟨hx, hb, hml, hown, hts⟩ (c_J7_fill_53178 l D B adK adV cC cF cI cZ cM cS mn mnm 3 0  o15 hc16) (va_cwS 2 hts gX2_reset_J7_fill_53178 rfl rfl rfl (by decide +kernel) ⟨Nat.le_of_ble_eq_true rfl, Nat.le_of_ble_eq_true rfl⟩) hK hP hD hS hB hE [7] rfl rfl rfl rfl rfl hl.1 rfl (Nat.le_of_ble_eq_true rfl) dX2_reset_19 ⟨Nat.le_of_ble_eq_true rfl, Nat.le_of_ble_eq_true rfl⟩ (fun H locs hP hD hS => ?_)
  refine W.eq (g2 := F0 m 22 ls []) rfl ?_
  refine lv_aload_n hx hb dX2_reset_22 rfl (lv_at hl 0 rfl) ?_
  refine lv_iconst (v := 0) hx hb dX2_reset_23 (by decide) ?_
  refine va_put (D := D) (ci := 2) (v := .int 0) (ty := .int) (C := RX2) (T := TX2) (N := 4) hx hb hts w0 tyX2 tyX2_ok nmX2 hown hK hP hD hS 0 rfl rfl 3 (by decide) w4 (fun _ h9 => h9) rfl (by decide +kernel) rfl rfl (Nat.le_of_ble_eq_true rfl) dX2_reset_24 (fun H locs hP hD hS => ?_)
  have hP : va_P D vwCl [(ma, .inr (2, [.ref mla, .ref mua, .ref mn, .int 0])), (mla, .inr (1, [.int o2, .int o3, .int o4, .int o5, .int o6, .ref mlb, .ref mlc])), (mlb, .inl (cF, 6, .inr (.inr (.inl o1)))), (mlc, .inl (cF, 6, .inr (.inr (.inl mlsb)))), (mua, .inr (1, [.int o9, .int o10, .int o11, .int o12, .int o13, .ref mub, .ref muc])), (mub, .inl (cF, 6, .inr (.inr (.inl o8)))), (muc, .inl (cF, 6, .inr (.inr (.inl musb)))), (mn, .inl (cI, 3, .inl o15))] H := hP
  have hD : va_D A [(ma, .inr (2, [.ref mla, .ref mua, .ref mn, .int 0])), (mla, .inr (1, [.int o2, .int o3, .int o4, .int o5, .int o6, .ref mlb, .ref mlc])), (mlb, .inl (cF, 6, .inr (.inr (.inl o1)))), (mlc, .inl (cF, 6, .inr (.inr (.inl mlsb)))), (mua, .inr (1, [.int o9, .int o10, .int o11, .int o12, .int o13, .ref mub, .ref muc])), (mub, .inl (cF, 6, .inr (.inr (.inl o8)))), (muc, .inl (cF, 6, .inr (.inr (.inl musb)))), (mn, .inl (cI, 3, .inl o15))] := hD
  have e0 : o1 = z_mlsh := (Prod.mk.inj (Option.some.inj hf)).1
  have e1 : o8 = z_mush := (Prod.mk.inj (Prod.mk.inj (Option.some.inj hf)).2).1
  have e2 : o15 = z_mnm := (Prod.mk.inj (Prod.mk.inj (Prod.mk.inj (Option.some.inj hf)).2).2).1
  have e3 : 0 = z_mtr := (Prod.mk.inj (Prod.mk.inj (Prod.mk.inj (Prod.mk.inj (Option.some.inj hf)).2).2).2).1
  have e4 : o2 = z_mlst := (Prod.mk.inj (Prod.mk.inj (Prod.mk.inj (Prod.mk.inj (Prod.mk.inj (Option.some.inj hf)).2).2).2).2).1
  have e5 : o3 = z_mlla := (Prod.mk.inj (Prod.mk.inj (Prod.mk.inj (Prod.mk.inj (Prod.mk.inj (Prod.mk.inj (Option.some.inj hf)).2).2).2).2).2).1
  have e6 : o4 = z_mlbw := (Prod.mk.inj (Prod.mk.inj (Prod.mk.inj (Prod.mk.inj (Prod.mk.inj (Prod.mk.inj (Prod.mk.inj (Option.some.inj hf)).2).2).2).2).2).2).1
  have e7 : o5 = z_mlbf := (Prod.mk.inj (Prod.mk.inj (Prod.mk.inj (Prod.mk.inj (Prod.mk.inj (Prod.mk.inj (Prod.mk.inj (Prod.mk.inj (Option.some.inj hf)).2).2).2).2).2).2).2).1
  have e8 : o6 = z_mlbd := (Prod.mk.inj (Prod.mk.inj (Prod.mk.inj (Prod.mk.inj (Prod.mk.inj (Prod.mk.inj (Prod.mk.inj (Prod.mk.inj (Prod.mk.inj (Option.some.inj hf)).2).2).2).2).2).2).2).2).1
  have e9 : o9 = z_must := (Prod.mk.inj (Prod.mk.inj (Prod.mk.inj (Prod.mk.inj (Prod.mk.inj (Prod.mk.inj (Prod.mk.inj (Prod.mk.inj (Prod.mk.inj (Prod.mk.inj (Option.some.inj hf)).2).2).2).2).2).2).2).2).2).1
  have e10 : o10 = z_mula := (Prod.mk.inj (Prod.mk.inj (Prod.mk.inj (Prod.mk.inj (Prod.mk.inj (Prod.mk.inj (Prod.mk.inj (Prod.mk.inj (Prod.mk.inj (Prod.mk.inj (Prod.mk.inj (Option.some.inj hf)).2).2).2).2).2).2).2).2).2).2).1
  have e11 : o11 = z_mubw := (Prod.mk.inj (Prod.mk.inj (Prod.mk.inj (Prod.mk.inj (Prod.mk.inj (Prod.mk.inj (Prod.mk.inj (Prod.mk.inj (Prod.mk.inj (Prod.mk.inj (Prod.mk.inj (Prod.mk.inj (Option.some.inj hf)).2).2).2).2).2).2).2).2).2).2).2).1
  have e12 : o12 = z_mubf := (Prod.mk.inj (Prod.mk.inj (Prod.mk.inj (Prod.mk.inj (Prod.mk.inj (Prod.mk.inj (Prod.mk.inj (Prod.mk.inj (Prod.mk.inj (Prod.mk.inj (Prod.mk.inj (Prod.mk.inj (Prod.mk.inj (Option.some.inj hf)).2).2).2).2).2).2).2).2).2).2).2).2).1
  have e13 : o13 = z_mubd := (Prod.mk.inj (Prod.mk.inj (Prod.mk.inj (Prod.mk.inj (Prod.mk.inj (Prod.mk.inj (Prod.mk.inj (Prod.mk.inj (Prod.mk.inj (Prod.mk.inj (Prod.mk.inj (Prod.mk.inj (Prod.mk.inj (Option.some.inj hf)).2).2).2).2).2).2).2).2).2).2).2).2).2
  subst e0
  subst e1
  subst e2
  subst e3
  subst e4
  subst e5
  subst e6
  subst e7
  subst e8
  subst e9
  subst e10
  subst e11
  subst e12
  subst e13
  rw [hQ]
  exact W.vret hx hb hr (fun t ht hW => qEnd hP hS ht) hS.2.2 dX2_reset_27
def f_X2_goOn (mtr : Int32) (mlst : Int32) (mlla : Int32) (mlbw : Int32) (mlbf : Int32) (mlbd : Int32) (mlsh : Nat → UInt32) (mlsb : Nat → UInt32) (must : Int32) (mula : Int32) (mubw : Int32) (mubf : Int32) (mubd : Int32) (mush : Nat → UInt32) (musb : Nat → UInt32) (mnm : Nat → Int32) (fwy : Int32) (fpt : Nat → Int32) : Option ((Nat → UInt32) × (Nat → UInt32) × (Nat → UInt32) × (Nat → UInt32) × Int32 × Int32 × Int32 × Int32 × Int32 × Int32 × Int32 × Int32 × Int32 × Int32 × Int32) := ((f_X1_goOn mlst mlla mlbw mlbf mlbd mlsh mlsb fwy fpt mtr mnm).bind fun (o1, o2, o3, o4, o5, o6, o7, o8) => ((f_X1_goOn must mula mubw mubf mubd mush musb fwy fpt o8 mnm).bind fun (o10, o11, o12, o13, o14, o15, o16, o17) => (some (o1, o2, o10, o11, o17, o3, o4, o5, o6, o7, o12, o13, o14, o15, o16))))
set_option maxRecDepth 100000 in
set_option maxHeartbeats 4000000 in
theorem c_X2_goOn (l : Launch) (D : va_G) (B : Nat) (adK adV : Nat → Nat) (cC cF cI cZ cM cS : ClassId) (ma : Nat) (mla : Nat) (mua : Nat) (mn : Nat) (mtr : Int32) (mlst : Int32) (mlla : Int32) (mlbw : Int32) (mlbf : Int32) (mlbd : Int32) (mlb : Nat) (mlc : Nat) (mlsh : Nat → UInt32) (mlsb : Nat → UInt32) (must : Int32) (mula : Int32) (mubw : Int32) (mubf : Int32) (mubd : Int32) (mub : Nat) (muc : Nat) (mush : Nat → UInt32) (musb : Nat → UInt32) (mnm : Nat → Int32) (fa : Nat) (fst : Int32) (fb : Nat) (fwy : Int32) (fc : Nat) (fmk : Int32) (fwt : Int32) (fvl : Nat → Int32) (fpt : Nat → Int32) (z_mlsh : Nat → UInt32) (z_mlsb : Nat → UInt32) (z_mush : Nat → UInt32) (z_musb : Nat → UInt32) (z_mtr : Int32) (z_mlst : Int32) (z_mlla : Int32) (z_mlbw : Int32) (z_mlbf : Int32) (z_mlbd : Int32) (z_must : Int32) (z_mula : Int32) (z_mubw : Int32) (z_mubf : Int32) (z_mubd : Int32) (hf : f_X2_goOn mtr mlst mlla mlbw mlbf mlbd mlsh mlsb must mula mubw mubf mubd mush musb mnm fwy fpt = some (z_mlsh, z_mlsb, z_mush, z_musb, z_mtr, z_mlst, z_mlla, z_mlbw, z_mlbf, z_mlbd, z_must, z_mula, z_mubw, z_mubf, z_mubd)) : Ct l yX2_goOn wsX2_goOn { frames := 5, cells := 0, slots := 0, locals := 136 } D B adK adV (tysX cC cF cI cZ cM cS) [.ref ma, .ref fa] [(ma, .inr (2, [.ref mla, .ref mua, .ref mn, .int mtr])), (mla, .inr (1, [.int mlst, .int mlla, .int mlbw, .int mlbf, .int mlbd, .ref mlb, .ref mlc])), (mlb, .inl (cF, 6, .inr (.inr (.inl mlsh)))), (mlc, .inl (cF, 6, .inr (.inr (.inl mlsb)))), (mua, .inr (1, [.int must, .int mula, .int mubw, .int mubf, .int mubd, .ref mub, .ref muc])), (mub, .inl (cF, 6, .inr (.inr (.inl mush)))), (muc, .inl (cF, 6, .inr (.inr (.inl musb)))), (mn, .inl (cI, 3, .inl mnm)), (fa, .inr (0, [.int fst, .ref fb, .int fwy, .ref fc, .int fmk, .int fwt])), (fb, .inl (cI, 24, .inl fvl)), (fc, .inl (cI, 84, .inl fpt))] [(ma, .inr (2, [.ref mla, .ref mua, .ref mn, .int z_mtr])), (mla, .inr (1, [.int z_mlst, .int z_mlla, .int z_mlbw, .int z_mlbf, .int z_mlbd, .ref mlb, .ref mlc])), (mlb, .inl (cF, 6, .inr (.inr (.inl z_mlsh)))), (mlc, .inl (cF, 6, .inr (.inr (.inl z_mlsb)))), (mua, .inr (1, [.int z_must, .int z_mula, .int z_mubw, .int z_mubf, .int z_mubd, .ref mub, .ref muc])), (mub, .inl (cF, 6, .inr (.inr (.inl z_mush)))), (muc, .inl (cF, 6, .inr (.inr (.inl z_musb)))), (mn, .inl (cI, 3, .inl mnm)), (fa, .inr (0, [.int fst, .ref fb, .int fwy, .ref fc, .int fmk, .int fwt])), (fb, .inl (cI, 24, .inl fvl)), (fc, .inl (cI, 84, .inl fpt))] none := by
  refine Ct.ofW (cc := cX2_goOn) (maxL := 2) (ret := none) (by decide) rfl (Nat.le_of_ble_eq_true rfl) ?_
  intro p e s m args below meth c hx hb hr hml hts hown hlocks hnm hK hE A Q hQ hB H locs ls hP hD hS hl
  have hl : lv_has ls 2 [(0, .ref ma), (1, .ref fa)] := hl
  have w0 : ∀ w ∈ u_ws RX2 TX2 4, w ∈ wsX2_goOn := by decide +kernel
  have w1 := hts (.fieldLink RX2 12 "MotionStates$Motion" "lower" "LMotionStates$Layer;") (by decide +kernel)
  have w2 := hts (.fieldLink RX2 18 "MotionStates$Motion" "upper" "LMotionStates$Layer;") (by decide +kernel)
  unfold f_X2_goOn at hf
  refine lv_aload_n hx hb dX2_goOn_0 rfl (lv_at hl 0 rfl) ?_
  refine va_get (D := D) (ci := 2) (v := .ref mla) (C := RX2) (T := TX2) (N := 4) hx hb hts w0 hown hK hP 0 rfl rfl 0 (by decide) w1 (fun _ h9 => h9) rfl dX2_goOn_1 ?_
  refine lv_aload_n hx hb dX2_goOn_4 rfl (lv_at hl 1 rfl) ?_
  refine lv_aload_n hx hb dX2_goOn_5 rfl (lv_at hl 0 rfl) ?_
  obtain ⟨⟨o1, o2, o3, o4, o5, o6, o7, o8⟩, hc9, hf⟩ := bd_inv hf
  refine xcV (As := [.ref fa, .ref ma]) (rest := []) (ws' := [(ma, .inr (2, [.ref mla, .ref mua, .ref mn, .int o8])), (mla, .inr (1, [.int o3, .int o4, .int o5, .int o6, .int o7, .ref mlb, .ref mlc])), (mlb, .inl (cF, 6, .inr (.inr (.inl o1)))), (mlc, .inl (cF, 6, .inr (.inr (.inl o2)))), (mua, .inr (1, [.int must, .int mula, .int mubw, .int mubf, .int mubd, .ref mub, .ref muc])), (mub, .inl (cF, 6, .inr (.inr (.inl mush)))), (muc, .inl (cF, 6, .inr (.inr (.inl musb)))), (mn, .inl (cI, 3, .inl mnm)), (fa, .inr (0, [.int fst, .ref fb, .int fwy, .ref fc, .int fmk, .int fwt])), (fb, .inl (cI, 24, .inl fvl)), (fc, .inl (cI, 84, .inl fpt))]) ⟨hx, hb, hml, hown, hts⟩ (c_X1_goOn l D B adK adV cC cF cI cZ cM cS mla mlst mlla mlbw mlbf mlbd mlb mlc mlsh mlsb fa fst fb fwy fc fmk fwt fvl fpt ma mla mua mn mtr mnm  o1 o2 o3 o4 o5 o6 o7 o8 hc9) (cwV 2 hts gX2_goOn_X1_goOn rfl rfl rfl (by decide +kernel) ⟨Nat.le_of_ble_eq_true rfl, Nat.le_of_ble_eq_true rfl⟩) (va_recv hK hP (ci := 1) (q0 := 1) rfl rfl) hK hP hD hS hB hE [1, 2, 3, 8, 9, 10, 0, 7] rfl rfl rfl rfl rfl hl.1 rfl (Nat.le_of_ble_eq_true rfl) dX2_goOn_6 ⟨Nat.le_of_ble_eq_true rfl, Nat.le_of_ble_eq_true rfl⟩ (fun H locs hP hD hS => ?_)
  refine W.eq (g2 := F0 m 9 ls []) rfl ?_
  refine lv_aload_n hx hb dX2_goOn_9 rfl (lv_at hl 0 rfl) ?_
  refine va_get (D := D) (ci := 2) (v := .ref mua) (C := RX2) (T := TX2) (N := 4) hx hb hts w0 hown hK hP 0 rfl rfl 1 (by decide) w2 (fun _ h9 => h9) rfl dX2_goOn_10 ?_
  refine lv_aload_n hx hb dX2_goOn_13 rfl (lv_at hl 1 rfl) ?_
  refine lv_aload_n hx hb dX2_goOn_14 rfl (lv_at hl 0 rfl) ?_
  obtain ⟨⟨o10, o11, o12, o13, o14, o15, o16, o17⟩, hc18, hf⟩ := bd_inv hf
  refine xcV (As := [.ref fa, .ref ma]) (rest := []) (ws' := [(ma, .inr (2, [.ref mla, .ref mua, .ref mn, .int o17])), (mla, .inr (1, [.int o3, .int o4, .int o5, .int o6, .int o7, .ref mlb, .ref mlc])), (mlb, .inl (cF, 6, .inr (.inr (.inl o1)))), (mlc, .inl (cF, 6, .inr (.inr (.inl o2)))), (mua, .inr (1, [.int o12, .int o13, .int o14, .int o15, .int o16, .ref mub, .ref muc])), (mub, .inl (cF, 6, .inr (.inr (.inl o10)))), (muc, .inl (cF, 6, .inr (.inr (.inl o11)))), (mn, .inl (cI, 3, .inl mnm)), (fa, .inr (0, [.int fst, .ref fb, .int fwy, .ref fc, .int fmk, .int fwt])), (fb, .inl (cI, 24, .inl fvl)), (fc, .inl (cI, 84, .inl fpt))]) ⟨hx, hb, hml, hown, hts⟩ (c_X1_goOn l D B adK adV cC cF cI cZ cM cS mua must mula mubw mubf mubd mub muc mush musb fa fst fb fwy fc fmk fwt fvl fpt ma mla mua mn o8 mnm  o10 o11 o12 o13 o14 o15 o16 o17 hc18) (cwV 2 hts gX2_goOn_X1_goOn rfl rfl rfl (by decide +kernel) ⟨Nat.le_of_ble_eq_true rfl, Nat.le_of_ble_eq_true rfl⟩) (va_recv hK hP (ci := 1) (q0 := 4) rfl rfl) hK hP hD hS hB hE [4, 5, 6, 8, 9, 10, 0, 7] rfl rfl rfl rfl rfl hl.1 rfl (Nat.le_of_ble_eq_true rfl) dX2_goOn_15 ⟨Nat.le_of_ble_eq_true rfl, Nat.le_of_ble_eq_true rfl⟩ (fun H locs hP hD hS => ?_)
  refine W.eq (g2 := F0 m 18 ls []) rfl ?_
  have e0 : o1 = z_mlsh := (Prod.mk.inj (Option.some.inj hf)).1
  have e1 : o2 = z_mlsb := (Prod.mk.inj (Prod.mk.inj (Option.some.inj hf)).2).1
  have e2 : o10 = z_mush := (Prod.mk.inj (Prod.mk.inj (Prod.mk.inj (Option.some.inj hf)).2).2).1
  have e3 : o11 = z_musb := (Prod.mk.inj (Prod.mk.inj (Prod.mk.inj (Prod.mk.inj (Option.some.inj hf)).2).2).2).1
  have e4 : o17 = z_mtr := (Prod.mk.inj (Prod.mk.inj (Prod.mk.inj (Prod.mk.inj (Prod.mk.inj (Option.some.inj hf)).2).2).2).2).1
  have e5 : o3 = z_mlst := (Prod.mk.inj (Prod.mk.inj (Prod.mk.inj (Prod.mk.inj (Prod.mk.inj (Prod.mk.inj (Option.some.inj hf)).2).2).2).2).2).1
  have e6 : o4 = z_mlla := (Prod.mk.inj (Prod.mk.inj (Prod.mk.inj (Prod.mk.inj (Prod.mk.inj (Prod.mk.inj (Prod.mk.inj (Option.some.inj hf)).2).2).2).2).2).2).1
  have e7 : o5 = z_mlbw := (Prod.mk.inj (Prod.mk.inj (Prod.mk.inj (Prod.mk.inj (Prod.mk.inj (Prod.mk.inj (Prod.mk.inj (Prod.mk.inj (Option.some.inj hf)).2).2).2).2).2).2).2).1
  have e8 : o6 = z_mlbf := (Prod.mk.inj (Prod.mk.inj (Prod.mk.inj (Prod.mk.inj (Prod.mk.inj (Prod.mk.inj (Prod.mk.inj (Prod.mk.inj (Prod.mk.inj (Option.some.inj hf)).2).2).2).2).2).2).2).2).1
  have e9 : o7 = z_mlbd := (Prod.mk.inj (Prod.mk.inj (Prod.mk.inj (Prod.mk.inj (Prod.mk.inj (Prod.mk.inj (Prod.mk.inj (Prod.mk.inj (Prod.mk.inj (Prod.mk.inj (Option.some.inj hf)).2).2).2).2).2).2).2).2).2).1
  have e10 : o12 = z_must := (Prod.mk.inj (Prod.mk.inj (Prod.mk.inj (Prod.mk.inj (Prod.mk.inj (Prod.mk.inj (Prod.mk.inj (Prod.mk.inj (Prod.mk.inj (Prod.mk.inj (Prod.mk.inj (Option.some.inj hf)).2).2).2).2).2).2).2).2).2).2).1
  have e11 : o13 = z_mula := (Prod.mk.inj (Prod.mk.inj (Prod.mk.inj (Prod.mk.inj (Prod.mk.inj (Prod.mk.inj (Prod.mk.inj (Prod.mk.inj (Prod.mk.inj (Prod.mk.inj (Prod.mk.inj (Prod.mk.inj (Option.some.inj hf)).2).2).2).2).2).2).2).2).2).2).2).1
  have e12 : o14 = z_mubw := (Prod.mk.inj (Prod.mk.inj (Prod.mk.inj (Prod.mk.inj (Prod.mk.inj (Prod.mk.inj (Prod.mk.inj (Prod.mk.inj (Prod.mk.inj (Prod.mk.inj (Prod.mk.inj (Prod.mk.inj (Prod.mk.inj (Option.some.inj hf)).2).2).2).2).2).2).2).2).2).2).2).2).1
  have e13 : o15 = z_mubf := (Prod.mk.inj (Prod.mk.inj (Prod.mk.inj (Prod.mk.inj (Prod.mk.inj (Prod.mk.inj (Prod.mk.inj (Prod.mk.inj (Prod.mk.inj (Prod.mk.inj (Prod.mk.inj (Prod.mk.inj (Prod.mk.inj (Prod.mk.inj (Option.some.inj hf)).2).2).2).2).2).2).2).2).2).2).2).2).2).1
  have e14 : o16 = z_mubd := (Prod.mk.inj (Prod.mk.inj (Prod.mk.inj (Prod.mk.inj (Prod.mk.inj (Prod.mk.inj (Prod.mk.inj (Prod.mk.inj (Prod.mk.inj (Prod.mk.inj (Prod.mk.inj (Prod.mk.inj (Prod.mk.inj (Prod.mk.inj (Option.some.inj hf)).2).2).2).2).2).2).2).2).2).2).2).2).2).2
  subst e0
  subst e1
  subst e2
  subst e3
  subst e4
  subst e5
  subst e6
  subst e7
  subst e8
  subst e9
  subst e10
  subst e11
  subst e12
  subst e13
  subst e14
  rw [hQ]
  exact W.vret hx hb hr (fun t ht hW => qEnd hP hS ht) hS.2.2 dX2_goOn_18
def f_X2_layerAt_0  : Option (Unit) := (some ())
set_option maxRecDepth 100000 in
set_option maxHeartbeats 4000000 in
theorem c_X2_layerAt_0 (l : Launch) (D : va_G) (B : Nat) (adK adV : Nat → Nat) (cC cF cI cZ cM cS : ClassId) (ma : Nat) (mla : Nat) (mua : Nat) (mn : Nat) (mtr : Int32) (mnm : Nat → Int32) (hf : f_X2_layerAt_0  = some ()) : Ct l yX2_layerAt wsX2_layerAt { frames := 0, cells := 0, slots := 0, locals := 0 } D B adK adV (tysX cC cF cI cZ cM cS) [.ref ma, .int 0] [(ma, .inr (2, [.ref mla, .ref mua, .ref mn, .int mtr])), (mn, .inl (cI, 3, .inl mnm))] [(ma, .inr (2, [.ref mla, .ref mua, .ref mn, .int mtr])), (mn, .inl (cI, 3, .inl mnm))] (some (.ref mla)) := by
  refine Ct.ofW (cc := cX2_layerAt) (maxL := 2) (ret := (some (.object "MotionStates$Layer"))) (by decide) rfl (Nat.le_of_ble_eq_true rfl) ?_
  intro p e s m args below meth c hx hb hr hml hts hown hlocks hnm hK hE A Q hQ hB H locs ls hP hD hS hl
  have hl : lv_has ls 2 [(0, .ref ma), (1, .int 0)] := hl
  have w0 : ∀ w ∈ u_ws RX2 TX2 4, w ∈ wsX2_layerAt := by decide +kernel
  have w1 := hts (.fieldLink RX2 12 "MotionStates$Motion" "lower" "LMotionStates$Layer;") (by decide +kernel)
  unfold f_X2_layerAt_0 at hf
  refine lv_iload_n hx hb dX2_layerAt_0 rfl (lv_at hl 1 rfl) ?_
  refine lv_if_ne (tgt := 11) hx hb dX2_layerAt_1 (by decide) (fun c1 => absurd c1 (by decide)) (fun c1 => ?_)
  refine lv_aload_n hx hb dX2_layerAt_4 rfl (lv_at hl 0 rfl) ?_
  refine va_get (D := D) (ci := 2) (v := .ref mla) (C := RX2) (T := TX2) (N := 4) hx hb hts w0 hown hK hP 0 rfl rfl 0 (by decide) w1 (fun _ h9 => h9) rfl dX2_layerAt_5 ?_
  refine lv_goto (tgt := 15) hx hb dX2_layerAt_8 (by decide) ?_
  rw [hQ]
  exact W.aret (v := .ref mla) hx hb hr (Or.inl ⟨_, rfl⟩) (Or.inr ⟨_, rfl⟩) (fun t ht hW => qEnd hP hS ht) hS.2.2 dX2_layerAt_15
def f_X2_layerAt_1  : Option (Unit) := (some ())
set_option maxRecDepth 100000 in
set_option maxHeartbeats 4000000 in
theorem c_X2_layerAt_1 (l : Launch) (D : va_G) (B : Nat) (adK adV : Nat → Nat) (cC cF cI cZ cM cS : ClassId) (ma : Nat) (mla : Nat) (mua : Nat) (mn : Nat) (mtr : Int32) (mnm : Nat → Int32) (hf : f_X2_layerAt_1  = some ()) : Ct l yX2_layerAt wsX2_layerAt { frames := 0, cells := 0, slots := 0, locals := 0 } D B adK adV (tysX cC cF cI cZ cM cS) [.ref ma, .int 1] [(ma, .inr (2, [.ref mla, .ref mua, .ref mn, .int mtr])), (mn, .inl (cI, 3, .inl mnm))] [(ma, .inr (2, [.ref mla, .ref mua, .ref mn, .int mtr])), (mn, .inl (cI, 3, .inl mnm))] (some (.ref mua)) := by
  refine Ct.ofW (cc := cX2_layerAt) (maxL := 2) (ret := (some (.object "MotionStates$Layer"))) (by decide) rfl (Nat.le_of_ble_eq_true rfl) ?_
  intro p e s m args below meth c hx hb hr hml hts hown hlocks hnm hK hE A Q hQ hB H locs ls hP hD hS hl
  have hl : lv_has ls 2 [(0, .ref ma), (1, .int 1)] := hl
  have w0 : ∀ w ∈ u_ws RX2 TX2 4, w ∈ wsX2_layerAt := by decide +kernel
  have w1 := hts (.fieldLink RX2 18 "MotionStates$Motion" "upper" "LMotionStates$Layer;") (by decide +kernel)
  unfold f_X2_layerAt_1 at hf
  refine lv_iload_n hx hb dX2_layerAt_0 rfl (lv_at hl 1 rfl) ?_
  refine lv_if_ne (tgt := 11) hx hb dX2_layerAt_1 (by decide) (fun c1 => ?_) (fun c1 => absurd c1 (by decide))
  refine lv_aload_n hx hb dX2_layerAt_11 rfl (lv_at hl 0 rfl) ?_
  refine va_get (D := D) (ci := 2) (v := .ref mua) (C := RX2) (T := TX2) (N := 4) hx hb hts w0 hown hK hP 0 rfl rfl 1 (by decide) w1 (fun _ h9 => h9) rfl dX2_layerAt_12 ?_
  rw [hQ]
  exact W.aret (v := .ref mua) hx hb hr (Or.inl ⟨_, rfl⟩) (Or.inr ⟨_, rfl⟩) (fun t ht hW => qEnd hP hS ht) hS.2.2 dX2_layerAt_15
