set_option maxRecDepth 100000 in
set_option maxHeartbeats 4000000 in
theorem c_Jxf58ca_isNaN_12338 (l : Launch) (D : va_G) (B : Nat) (adK adV : Nat → Nat) (cC cF cI cZ cM cS : ClassId) (x : UInt32) (zz : Int32) (hf : f_Jxf58ca_isNaN_12338 x = some zz) : Ct l yJxf58ca_isNaN_12338 wsJxf58ca_isNaN_12338 { frames := 0, cells := 0, slots := 0, locals := 0 } D B adK adV (tysX cC cF cI cZ cM cS) [.float x] [] [] (some (.int zz)) := by
  refine Ct.ofWF (cc := cJxf58ca_isNaN_12338) (maxL := 1) (ret := (some .boolean)) (by decide +kernel) rfl (Nat.le_of_ble_eq_true rfl) ?_
  intro p e s m args below meth c hx hb hr hml hts hown hlocks hnm hK hE A Q hQ hB H locs ls hP hD hS hl
  have hl : lv_has ls 1 [(0, .float x)] := hl
  unfold f_Jxf58ca_isNaN_12338 at hf
  refine lv_fload_n hx hb dJxf58ca_isNaN_12338_0 rfl (lv_at hl 0 rfl) ?_
  refine lv_fload_n hx hb dJxf58ca_isNaN_12338_1 rfl (lv_at hl 0 rfl) ?_
  refine lv_fcmp hx hb dJxf58ca_isNaN_12338_2 ?_
  refine lv_if_eq (tgt := 10) hx hb dJxf58ca_isNaN_12338_3 (by decide) (fun c1 => ?_) (fun c1 => ?_)
  · have hf := if_p c1 hf
    refine lv_iconst (v := 0) hx hb dJxf58ca_isNaN_12338_10 (by decide) ?_
    have h1 := Option.some.inj hf
    subst h1
    rw [hQ]
    exact W.zret (v := 0) (ty := .boolean) hx hb hr rfl (fun t ht hW => qEnd hP hS ht) hS.2.2 dJxf58ca_isNaN_12338_11
  · have hf := if_n c1 hf
    refine lv_iconst (v := 1) hx hb dJxf58ca_isNaN_12338_6 (by decide) ?_
    refine lv_goto (tgt := 11) hx hb dJxf58ca_isNaN_12338_7 (by decide) ?_
    have h1 := Option.some.inj hf
    subst h1
    rw [hQ]
    exact W.zret (v := 1) (ty := .boolean) hx hb hr rfl (fun t ht hW => qEnd hP hS ht) hS.2.2 dJxf58ca_isNaN_12338_11
set_option maxRecDepth 100000 in
set_option maxHeartbeats 4000000 in
theorem c_Jxf58ca_floatToIntBits_5c35a (l : Launch) (D : va_G) (B : Nat) (adK adV : Nat → Nat) (cC cF cI cZ cM cS : ClassId) (x : UInt32) (zz : Int32) (hf : f_Jxf58ca_floatToIntBits_5c35a x = some zz) : Ct l yJxf58ca_floatToIntBits_5c35a wsJxf58ca_floatToIntBits_5c35a { frames := 1, cells := 0, slots := 0, locals := 23 } D B adK adV (tysX cC cF cI cZ cM cS) [.float x] [] [] (some (.int zz)) := by
  refine Ct.ofWF (cc := cJxf58ca_floatToIntBits_5c35a) (maxL := 1) (ret := (some .int)) (by decide +kernel) rfl (Nat.le_of_ble_eq_true rfl) ?_
  intro p e s m args below meth c hx hb hr hml hts hown hlocks hnm hK hE A Q hQ hB H locs ls hP hD hS hl
  have hl : lv_has ls 1 [(0, .float x)] := hl
  have w0 := hts (.constant RJxf58ca 77 (2143289344)) (by decide +kernel)
  have w1 := hts (.methodLink RJxf58ca 74 ⟨"java/lang/Float", "floatToRawIntBits", "(F)I"⟩) (by decide +kernel)
  have w2 := hts (.native ⟨"java/lang/Float", "floatToRawIntBits", "(F)I"⟩) (by decide +kernel)
  have w3 := hts (.static ⟨"java/lang/Float", "floatToRawIntBits", "(F)I"⟩) (by decide +kernel)
  have w4 := hts (.initialized "java/lang/Float") (by decide +kernel)
  unfold f_Jxf58ca_floatToIntBits_5c35a at hf
  refine lv_fload_n hx hb dJxf58ca_floatToIntBits_5c35a_0 rfl (lv_at hl 0 rfl) ?_
  obtain ⟨r1, hc2, hf⟩ := bd_inv hf
  refine xcS (As := [.float x]) (rest := []) (ws' := []) ⟨hx, hb, hml, hown, hts⟩ (c_Jxf58ca_isNaN_12338 l D B adK adV cC cF cI cZ cM cS x  r1 hc2) (va_cwS 1 hts gJxf58ca_floatToIntBits_5c35a_Jxf58ca_isNaN_12338 rfl rfl rfl (by decide +kernel) ⟨Nat.le_of_ble_eq_true rfl, Nat.le_of_ble_eq_true rfl⟩) hK hP hD hS hB hE [] rfl rfl rfl rfl rfl hl.1 rfl (Nat.le_of_ble_eq_true rfl) dJxf58ca_floatToIntBits_5c35a_1 ⟨Nat.le_of_ble_eq_true rfl, Nat.le_of_ble_eq_true rfl⟩ (fun H locs hP hD hS => ?_)
  refine W.eq (g2 := F0 m 4 ls [.int r1]) rfl ?_
  refine lv_if_ne (tgt := 12) hx hb dJxf58ca_floatToIntBits_5c35a_4 (by decide) (fun c3 => ?_) (fun c3 => ?_)
  · have hf := if_n c3 hf
    refine lv_ldc hx hb hown w0 dJxf58ca_floatToIntBits_5c35a_12 ?_
    have h1 := Option.some.inj hf
    subst h1
    rw [hQ]
    exact W.iret (v := 2143289344) hx hb hr (fun t ht hW => qEnd hP hS ht) hS.2.2 dJxf58ca_floatToIntBits_5c35a_14
  · have hf := if_p c3 hf
    refine lv_fload_n hx hb dJxf58ca_floatToIntBits_5c35a_7 rfl (lv_at hl 0 rfl) ?_
    refine vn_f2i hx hb (hml.trans hl.1.symm) hown w1 w2 w3 w4 (Nat.le_of_ble_eq_true rfl) (Nat.le_of_ble_eq_true rfl) dJxf58ca_floatToIntBits_5c35a_8 ?_
    have h1 := Option.some.inj hf
    subst h1
    rw [hQ]
    exact W.iret (v := (x.toInt32)) hx hb hr (fun t ht hW => qEnd hP hS ht) hS.2.2 dJxf58ca_floatToIntBits_5c35a_11
set_option maxRecDepth 100000 in
set_option maxHeartbeats 4000000 in
theorem c_Jxe99ae_isNaN_b9ae7 (l : Launch) (D : va_G) (B : Nat) (adK adV : Nat → Nat) (cC cF cI cZ cM cS : ClassId) (x : UInt64) (zz : Int32) (hf : f_Jxe99ae_isNaN_b9ae7 x = some zz) : Ct l yJxe99ae_isNaN_b9ae7 wsJxe99ae_isNaN_b9ae7 { frames := 0, cells := 0, slots := 0, locals := 0 } D B adK adV (tysX cC cF cI cZ cM cS) [.double x] [] [] (some (.int zz)) := by
  refine Ct.ofW (cc := cJxe99ae_isNaN_b9ae7) (maxL := 2) (ret := (some .boolean)) (by decide) rfl (Nat.le_of_ble_eq_true rfl) ?_
  intro p e s m args below meth c hx hb hr hml hts hown hlocks hnm hK hE A Q hQ hB H locs ls hP hD hS hl
  have hl : lv_has ls 2 [(0, .double x)] := hl
  unfold f_Jxe99ae_isNaN_b9ae7 at hf
  refine lv_dload_n hx hb dJxe99ae_isNaN_b9ae7_0 rfl (lv_at hl 0 rfl) ?_
  refine lv_dload_n hx hb dJxe99ae_isNaN_b9ae7_1 rfl (lv_at hl 0 rfl) ?_
  refine lv_dcmp hx hb dJxe99ae_isNaN_b9ae7_2 ?_
  refine lv_if_eq (tgt := 10) hx hb dJxe99ae_isNaN_b9ae7_3 (by decide) (fun c1 => ?_) (fun c1 => ?_)
  · have hf := if_p c1 hf
    refine lv_iconst (v := 0) hx hb dJxe99ae_isNaN_b9ae7_10 (by decide) ?_
    have h1 := Option.some.inj hf
    subst h1
    rw [hQ]
    exact W.zret (v := 0) (ty := .boolean) hx hb hr rfl (fun t ht hW => qEnd hP hS ht) hS.2.2 dJxe99ae_isNaN_b9ae7_11
  · have hf := if_n c1 hf
    refine lv_iconst (v := 1) hx hb dJxe99ae_isNaN_b9ae7_6 (by decide) ?_
    refine lv_goto (tgt := 11) hx hb dJxe99ae_isNaN_b9ae7_7 (by decide) ?_
    have h1 := Option.some.inj hf
    subst h1
    rw [hQ]
    exact W.zret (v := 1) (ty := .boolean) hx hb hr rfl (fun t ht hW => qEnd hP hS ht) hS.2.2 dJxe99ae_isNaN_b9ae7_11
set_option maxRecDepth 100000 in
set_option maxHeartbeats 4000000 in
theorem c_Jxe99ae_doubleToLongBits_ccdee (l : Launch) (D : va_G) (B : Nat) (adK adV : Nat → Nat) (cC cF cI cZ cM cS : ClassId) (x : UInt64) (zz : Int64) (hf : f_Jxe99ae_doubleToLongBits_ccdee x = some zz) : Ct l yJxe99ae_doubleToLongBits_ccdee wsJxe99ae_doubleToLongBits_ccdee { frames := 1, cells := 0, slots := 0, locals := 23 } D B adK adV (tysX cC cF cI cZ cM cS) [.double x] [] [] (some (.long zz)) := by
  refine Ct.ofW (cc := cJxe99ae_doubleToLongBits_ccdee) (maxL := 2) (ret := (some .long)) (by decide) rfl (Nat.le_of_ble_eq_true rfl) ?_
  intro p e s m args below meth c hx hb hr hml hts hown hlocks hnm hK hE A Q hQ hB H locs ls hP hD hS hl
  have hl : lv_has ls 2 [(0, .double x)] := hl
  have w0 := hts (.constantLong RJxe99ae 137 (9221120237041090560)) (by decide +kernel)
  have w1 := hts (.methodLink RJxe99ae 134 ⟨"java/lang/Double", "doubleToRawLongBits", "(D)J"⟩) (by decide +kernel)
  have w2 := hts (.native ⟨"java/lang/Double", "doubleToRawLongBits", "(D)J"⟩) (by decide +kernel)
  have w3 := hts (.static ⟨"java/lang/Double", "doubleToRawLongBits", "(D)J"⟩) (by decide +kernel)
  have w4 := hts (.initialized "java/lang/Double") (by decide +kernel)
  unfold f_Jxe99ae_doubleToLongBits_ccdee at hf
  refine lv_dload_n hx hb dJxe99ae_doubleToLongBits_ccdee_0 rfl (lv_at hl 0 rfl) ?_
  obtain ⟨r1, hc2, hf⟩ := bd_inv hf
  refine xcS (As := [.double x]) (rest := []) (ws' := []) ⟨hx, hb, hml, hown, hts⟩ (c_Jxe99ae_isNaN_b9ae7 l D B adK adV cC cF cI cZ cM cS x  r1 hc2) (va_cwS 1 hts gJxe99ae_doubleToLongBits_ccdee_Jxe99ae_isNaN_b9ae7 rfl rfl rfl (by decide +kernel) ⟨Nat.le_of_ble_eq_true rfl, Nat.le_of_ble_eq_true rfl⟩) hK hP hD hS hB hE [] rfl rfl rfl rfl rfl hl.1 rfl (Nat.le_of_ble_eq_true rfl) dJxe99ae_doubleToLongBits_ccdee_1 ⟨Nat.le_of_ble_eq_true rfl, Nat.le_of_ble_eq_true rfl⟩ (fun H locs hP hD hS => ?_)
  refine W.eq (g2 := F0 m 4 ls [.int r1]) rfl ?_
  refine lv_if_ne (tgt := 12) hx hb dJxe99ae_doubleToLongBits_ccdee_4 (by decide) (fun c3 => ?_) (fun c3 => ?_)
  · have hf := if_n c3 hf
    refine lv_ldc2 hx hb hown w0 dJxe99ae_doubleToLongBits_ccdee_12 ?_
    have h1 := Option.some.inj hf
    subst h1
    rw [hQ]
    exact W.lret (v := 9221120237041090560) hx hb hr (fun t ht hW => qEnd hP hS ht) hS.2.2 dJxe99ae_doubleToLongBits_ccdee_15
  · have hf := if_p c3 hf
    refine lv_dload_n hx hb dJxe99ae_doubleToLongBits_ccdee_7 rfl (lv_at hl 0 rfl) ?_
    refine vn_d2l hx hb (hml.trans hl.1.symm) hown w1 w2 w3 w4 (Nat.le_of_ble_eq_true rfl) (Nat.le_of_ble_eq_true rfl) dJxe99ae_doubleToLongBits_ccdee_8 ?_
    have h1 := Option.some.inj hf
    subst h1
    rw [hQ]
    exact W.lret (v := (x.toInt64)) hx hb hr (fun t ht hW => qEnd hP hS ht) hS.2.2 dJxe99ae_doubleToLongBits_ccdee_11
set_option maxRecDepth 100000 in
set_option maxHeartbeats 4000000 in
theorem c_X6_in (l : Launch) (D : va_G) (B : Nat) (adK adV : Nat → Nat) (cC cF cI cZ cM cS : ClassId) (v : Int64) (lo : Int64) (hi : Int64) (zz : Int32) (hf : f_X6_in v lo hi = some zz) : Ct l yX6_in wsX6_in { frames := 0, cells := 0, slots := 0, locals := 0 } D B adK adV (tysX cC cF cI cZ cM cS) [.long v, .long lo, .long hi] [] [] (some (.int zz)) := by
  refine Ct.ofW (cc := cX6_in) (maxL := 6) (ret := (some .boolean)) (by decide) rfl (Nat.le_of_ble_eq_true rfl) ?_
  intro p e s m args below meth c hx hb hr hml hts hown hlocks hnm hK hE A Q hQ hB H locs ls hP hD hS hl
  have hl : lv_has ls 6 [(0, .long v), (2, .long lo), (4, .long hi)] := hl
  unfold f_X6_in at hf
  refine lv_lload_n hx hb dX6_in_0 rfl (lv_at hl 0 rfl) ?_
  refine lv_lload_n hx hb dX6_in_1 rfl (lv_at hl 1 rfl) ?_
  refine W.lcmp hx hb dX6_in_2 ?_
  refine lv_if_lt (tgt := 17) hx hb dX6_in_3 (by decide) (fun c1 => ?_) (fun c1 => ?_)
  · have hf := if_p c1 hf
    refine lv_iconst (v := 0) hx hb dX6_in_17 (by decide) ?_
    have h1 := Option.some.inj hf
    subst h1
    rw [hQ]
    exact W.zret (v := 0) (ty := .boolean) hx hb hr rfl (fun t ht hW => qEnd hP hS ht) hS.2.2 dX6_in_18
  · have hf := if_n c1 hf
    refine lv_lload_n hx hb dX6_in_6 rfl (lv_at hl 0 rfl) ?_
    refine lv_lload hx hb dX6_in_7 (lv_at hl 2 rfl) ?_
    refine W.lcmp hx hb dX6_in_9 ?_
    refine lv_if_gt (tgt := 17) hx hb dX6_in_10 (by decide) (fun c2 => ?_) (fun c2 => ?_)
    · have hf := if_p c2 hf
      refine lv_iconst (v := 0) hx hb dX6_in_17 (by decide) ?_
      have h1 := Option.some.inj hf
      subst h1
      rw [hQ]
      exact W.zret (v := 0) (ty := .boolean) hx hb hr rfl (fun t ht hW => qEnd hP hS ht) hS.2.2 dX6_in_18
    · have hf := if_n c2 hf
      refine lv_iconst (v := 1) hx hb dX6_in_13 (by decide) ?_
      refine lv_goto (tgt := 18) hx hb dX6_in_14 (by decide) ?_
      have h1 := Option.some.inj hf
      subst h1
      rw [hQ]
      exact W.zret (v := 1) (ty := .boolean) hx hb hr rfl (fun t ht hW => qEnd hP hS ht) hS.2.2 dX6_in_18
set_option maxRecDepth 100000 in
set_option maxHeartbeats 4000000 in
theorem c_X6_has (l : Launch) (D : va_G) (B : Nat) (adK adV : Nat → Nat) (cC cF cI cZ cM cS : ClassId) (x : Int32) (k : Int32) (zz : Int32) (hf : f_X6_has x k = some zz) : Ct l yX6_has wsX6_has { frames := 0, cells := 0, slots := 0, locals := 0 } D B adK adV (tysX cC cF cI cZ cM cS) [.int x, .int k] [] [] (some (.int zz)) := by
  refine Ct.ofW (cc := cX6_has) (maxL := 2) (ret := (some .boolean)) (by decide) rfl (Nat.le_of_ble_eq_true rfl) ?_
  intro p e s m args below meth c hx hb hr hml hts hown hlocks hnm hK hE A Q hQ hB H locs ls hP hD hS hl
  have hl : lv_has ls 2 [(0, .int x), (1, .int k)] := hl
  unfold f_X6_has at hf
  refine lv_iload_n hx hb dX6_has_0 rfl (lv_at hl 0 rfl) ?_
  refine lv_iload_n hx hb dX6_has_1 rfl (lv_at hl 1 rfl) ?_
  refine lv_ishr hx hb dX6_has_2 ?_
  refine lv_iconst (v := 1) hx hb dX6_has_3 (by decide) ?_
  refine lv_iand hx hb dX6_has_4 ?_
  refine lv_iconst (v := 1) hx hb dX6_has_5 (by decide) ?_
  refine lv_icmp_ne (tgt := 13) hx hb dX6_has_6 (by decide) (fun c1 => ?_) (fun c1 => ?_)
  · have hf := if_n c1 hf
    refine lv_iconst (v := 0) hx hb dX6_has_13 (by decide) ?_
    have h1 := Option.some.inj hf
    subst h1
    rw [hQ]
    exact W.zret (v := 0) (ty := .boolean) hx hb hr rfl (fun t ht hW => qEnd hP hS ht) hS.2.2 dX6_has_14
  · have hf := if_p c1 hf
    refine lv_iconst (v := 1) hx hb dX6_has_9 (by decide) ?_
    refine lv_goto (tgt := 14) hx hb dX6_has_10 (by decide) ?_
    have h1 := Option.some.inj hf
    subst h1
    rw [hQ]
    exact W.zret (v := 1) (ty := .boolean) hx hb hr rfl (fun t ht hW => qEnd hP hS ht) hS.2.2 dX6_has_14
set_option maxRecDepth 100000 in
set_option maxHeartbeats 4000000 in
theorem c_X6_isLetter (l : Launch) (D : va_G) (B : Nat) (adK adV : Nat → Nat) (cC cF cI cZ cM cS : ClassId) (ch : Int32) (zz : Int32) (hf : f_X6_isLetter ch = some zz) : Ct l yX6_isLetter wsX6_isLetter { frames := 1, cells := 0, slots := 0, locals := 25 } D B adK adV (tysX cC cF cI cZ cM cS) [.int ch] [] [] (some (.int zz)) := by
  refine Ct.ofW (cc := cX6_isLetter) (maxL := 1) (ret := (some .boolean)) (by decide) rfl (Nat.le_of_ble_eq_true rfl) ?_
  intro p e s m args below meth c hx hb hr hml hts hown hlocks hnm hK hE A Q hQ hB H locs ls hP hD hS hl
  have hl : lv_has ls 1 [(0, .int ch)] := hl
  have w0 := hts (.constantLong RX6 61 (97)) (by decide +kernel)
  have w1 := hts (.constantLong RX6 63 (122)) (by decide +kernel)
  unfold f_X6_isLetter at hf
  refine lv_iload_n hx hb dX6_isLetter_0 rfl (lv_at hl 0 rfl) ?_
  refine lv_i2l hx hb dX6_isLetter_1 rfl ?_
  refine lv_ldc2 hx hb hown w0 dX6_isLetter_2 ?_
  refine lv_ldc2 hx hb hown w1 dX6_isLetter_5 ?_
  obtain ⟨r1, hc2, hf⟩ := bd_inv hf
  refine xcS (As := [.long (ch.toInt64), .long 97, .long 122]) (rest := []) (ws' := []) ⟨hx, hb, hml, hown, hts⟩ (c_X6_in l D B adK adV cC cF cI cZ cM cS (ch.toInt64) 97 122  r1 hc2) (va_cwS 3 hts gX6_isLetter_X6_in rfl rfl rfl (by decide +kernel) ⟨Nat.le_of_ble_eq_true rfl, Nat.le_of_ble_eq_true rfl⟩) hK hP hD hS hB hE [] rfl rfl rfl rfl rfl hl.1 rfl (Nat.le_of_ble_eq_true rfl) dX6_isLetter_8 ⟨Nat.le_of_ble_eq_true rfl, Nat.le_of_ble_eq_true rfl⟩ (fun H locs hP hD hS => ?_)
  refine W.eq (g2 := F0 m 11 ls [.int r1]) rfl ?_
  obtain ⟨g3, hf⟩ := gd_inv hf
  have h1 := Option.some.inj hf
  subst h1
  rw [hQ]
  exact W.zret (v := r1) (ty := .boolean) hx hb hr (zok_n g3) (fun t ht hW => qEnd hP hS ht) hS.2.2 dX6_isLetter_11
set_option maxRecDepth 100000 in
set_option maxHeartbeats 4000000 in
theorem c_X6_isDigit (l : Launch) (D : va_G) (B : Nat) (adK adV : Nat → Nat) (cC cF cI cZ cM cS : ClassId) (ch : Int32) (zz : Int32) (hf : f_X6_isDigit ch = some zz) : Ct l yX6_isDigit wsX6_isDigit { frames := 1, cells := 0, slots := 0, locals := 25 } D B adK adV (tysX cC cF cI cZ cM cS) [.int ch] [] [] (some (.int zz)) := by
  refine Ct.ofW (cc := cX6_isDigit) (maxL := 1) (ret := (some .boolean)) (by decide) rfl (Nat.le_of_ble_eq_true rfl) ?_
  intro p e s m args below meth c hx hb hr hml hts hown hlocks hnm hK hE A Q hQ hB H locs ls hP hD hS hl
  have hl : lv_has ls 1 [(0, .int ch)] := hl
  have w0 := hts (.constantLong RX6 65 (48)) (by decide +kernel)
  have w1 := hts (.constantLong RX6 67 (57)) (by decide +kernel)
  unfold f_X6_isDigit at hf
  refine lv_iload_n hx hb dX6_isDigit_0 rfl (lv_at hl 0 rfl) ?_
  refine lv_i2l hx hb dX6_isDigit_1 rfl ?_
  refine lv_ldc2 hx hb hown w0 dX6_isDigit_2 ?_
  refine lv_ldc2 hx hb hown w1 dX6_isDigit_5 ?_
  obtain ⟨r1, hc2, hf⟩ := bd_inv hf
  refine xcS (As := [.long (ch.toInt64), .long 48, .long 57]) (rest := []) (ws' := []) ⟨hx, hb, hml, hown, hts⟩ (c_X6_in l D B adK adV cC cF cI cZ cM cS (ch.toInt64) 48 57  r1 hc2) (va_cwS 3 hts gX6_isDigit_X6_in rfl rfl rfl (by decide +kernel) ⟨Nat.le_of_ble_eq_true rfl, Nat.le_of_ble_eq_true rfl⟩) hK hP hD hS hB hE [] rfl rfl rfl rfl rfl hl.1 rfl (Nat.le_of_ble_eq_true rfl) dX6_isDigit_8 ⟨Nat.le_of_ble_eq_true rfl, Nat.le_of_ble_eq_true rfl⟩ (fun H locs hP hD hS => ?_)
  refine W.eq (g2 := F0 m 11 ls [.int r1]) rfl ?_
  obtain ⟨g3, hf⟩ := gd_inv hf
  have h1 := Option.some.inj hf
  subst h1
  rw [hQ]
  exact W.zret (v := r1) (ty := .boolean) hx hb hr (zok_n g3) (fun t ht hW => qEnd hP hS ht) hS.2.2 dX6_isDigit_11
set_option maxRecDepth 100000 in
set_option maxHeartbeats 4000000 in
theorem c_X6_isFrames (l : Launch) (D : va_G) (B : Nat) (adK adV : Nat → Nat) (cC cF cI cZ cM cS : ClassId) (x : Int32) (zz : Int32) (hf : f_X6_isFrames x = some zz) : Ct l yX6_isFrames wsX6_isFrames { frames := 0, cells := 0, slots := 0, locals := 0 } D B adK adV (tysX cC cF cI cZ cM cS) [.int x] [] [] (some (.int zz)) := by
  refine Ct.ofW (cc := cX6_isFrames) (maxL := 1) (ret := (some .boolean)) (by decide) rfl (Nat.le_of_ble_eq_true rfl) ?_
  intro p e s m args below meth c hx hb hr hml hts hown hlocks hnm hK hE A Q hQ hB H locs ls hP hD hS hl
  have hl : lv_has ls 1 [(0, .int x)] := hl
  unfold f_X6_isFrames at hf
  refine lv_iload_n hx hb dX6_isFrames_0 rfl (lv_at hl 0 rfl) ?_
  refine lv_iconst (v := 3) hx hb dX6_isFrames_1 (by decide) ?_
  refine lv_icmp_lt (tgt := 22) hx hb dX6_isFrames_2 (by decide) (fun c1 => ?_) (fun c1 => ?_)
  · have hf := if_p c1 hf
    refine lv_iconst (v := 1) hx hb dX6_isFrames_22 (by decide) ?_
    refine lv_goto (tgt := 27) hx hb dX6_isFrames_23 (by decide) ?_
    have h1 := Option.some.inj hf
    subst h1
    rw [hQ]
    exact W.zret (v := 1) (ty := .boolean) hx hb hr rfl (fun t ht hW => qEnd hP hS ht) hS.2.2 dX6_isFrames_27
  · have hf := if_n c1 hf
    refine lv_iload_n hx hb dX6_isFrames_5 rfl (lv_at hl 0 rfl) ?_
    refine lv_iconst (v := 4) hx hb dX6_isFrames_6 (by decide) ?_
    refine lv_icmp_eq (tgt := 22) hx hb dX6_isFrames_7 (by decide) (fun c2 => ?_) (fun c2 => ?_)
    · have hf := if_p c2 hf
      refine lv_iconst (v := 1) hx hb dX6_isFrames_22 (by decide) ?_
      refine lv_goto (tgt := 27) hx hb dX6_isFrames_23 (by decide) ?_
      have h1 := Option.some.inj hf
      subst h1
      rw [hQ]
      exact W.zret (v := 1) (ty := .boolean) hx hb hr rfl (fun t ht hW => qEnd hP hS ht) hS.2.2 dX6_isFrames_27
    · have hf := if_n c2 hf
      refine lv_iload_n hx hb dX6_isFrames_10 rfl (lv_at hl 0 rfl) ?_
      refine lv_bipush (v := 8) hx hb dX6_isFrames_11 (by decide) ?_
      refine lv_icmp_eq (tgt := 22) hx hb dX6_isFrames_13 (by decide) (fun c3 => ?_) (fun c3 => ?_)
      · have hf := if_p c3 hf
        refine lv_iconst (v := 1) hx hb dX6_isFrames_22 (by decide) ?_
        refine lv_goto (tgt := 27) hx hb dX6_isFrames_23 (by decide) ?_
        have h1 := Option.some.inj hf
        subst h1
        rw [hQ]
        exact W.zret (v := 1) (ty := .boolean) hx hb hr rfl (fun t ht hW => qEnd hP hS ht) hS.2.2 dX6_isFrames_27
      · have hf := if_n c3 hf
        refine lv_iload_n hx hb dX6_isFrames_16 rfl (lv_at hl 0 rfl) ?_
        refine lv_bipush (v := 16) hx hb dX6_isFrames_17 (by decide) ?_
        refine lv_icmp_ne (tgt := 26) hx hb dX6_isFrames_19 (by decide) (fun c4 => ?_) (fun c4 => ?_)
        · have hf := if_n c4 hf
          refine lv_iconst (v := 0) hx hb dX6_isFrames_26 (by decide) ?_
          have h1 := Option.some.inj hf
          subst h1
          rw [hQ]
          exact W.zret (v := 0) (ty := .boolean) hx hb hr rfl (fun t ht hW => qEnd hP hS ht) hS.2.2 dX6_isFrames_27
        · have hf := if_p c4 hf
          refine lv_iconst (v := 1) hx hb dX6_isFrames_22 (by decide) ?_
          refine lv_goto (tgt := 27) hx hb dX6_isFrames_23 (by decide) ?_
          have h1 := Option.some.inj hf
          subst h1
          rw [hQ]
          exact W.zret (v := 1) (ty := .boolean) hx hb hr rfl (fun t ht hW => qEnd hP hS ht) hS.2.2 dX6_isFrames_27
set_option maxRecDepth 100000 in
set_option maxHeartbeats 4000000 in
theorem c_X6_isLayer (l : Launch) (D : va_G) (B : Nat) (adK adV : Nat → Nat) (cC cF cI cZ cM cS : ClassId) (i : Int32) (zz : Int32) (hf : f_X6_isLayer i = some zz) : Ct l yX6_isLayer wsX6_isLayer { frames := 1, cells := 0, slots := 0, locals := 25 } D B adK adV (tysX cC cF cI cZ cM cS) [.int i] [] [] (some (.int zz)) := by
  refine Ct.ofW (cc := cX6_isLayer) (maxL := 1) (ret := (some .boolean)) (by decide) rfl (Nat.le_of_ble_eq_true rfl) ?_
  intro p e s m args below meth c hx hb hr hml hts hown hlocks hnm hK hE A Q hQ hB H locs ls hP hD hS hl
  have hl : lv_has ls 1 [(0, .int i)] := hl
  unfold f_X6_isLayer at hf
  refine lv_iload_n hx hb dX6_isLayer_0 rfl (lv_at hl 0 rfl) ?_
  refine lv_i2l hx hb dX6_isLayer_1 rfl ?_
  refine lv_lconst (v := 0) hx hb dX6_isLayer_2 (by decide) ?_
  refine lv_lconst (v := 1) hx hb dX6_isLayer_3 (by decide) ?_
  obtain ⟨r1, hc2, hf⟩ := bd_inv hf
  refine xcS (As := [.long (i.toInt64), .long 0, .long 1]) (rest := []) (ws' := []) ⟨hx, hb, hml, hown, hts⟩ (c_X6_in l D B adK adV cC cF cI cZ cM cS (i.toInt64) 0 1  r1 hc2) (va_cwS 3 hts gX6_isLayer_X6_in rfl rfl rfl (by decide +kernel) ⟨Nat.le_of_ble_eq_true rfl, Nat.le_of_ble_eq_true rfl⟩) hK hP hD hS hB hE [] rfl rfl rfl rfl rfl hl.1 rfl (Nat.le_of_ble_eq_true rfl) dX6_isLayer_4 ⟨Nat.le_of_ble_eq_true rfl, Nat.le_of_ble_eq_true rfl⟩ (fun H locs hP hD hS => ?_)
  refine W.eq (g2 := F0 m 7 ls [.int r1]) rfl ?_
  obtain ⟨g3, hf⟩ := gd_inv hf
  have h1 := Option.some.inj hf
  subst h1
  rw [hQ]
  exact W.zret (v := r1) (ty := .boolean) hx hb hr (zok_n g3) (fun t ht hW => qEnd hP hS ht) hS.2.2 dX6_isLayer_7
set_option maxRecDepth 100000 in
set_option maxHeartbeats 4000000 in
theorem c_X6_isThird (l : Launch) (D : va_G) (B : Nat) (adK adV : Nat → Nat) (cC cF cI cZ cM cS : ClassId) (i : Int32) (zz : Int32) (hf : f_X6_isThird i = some zz) : Ct l yX6_isThird wsX6_isThird { frames := 1, cells := 0, slots := 0, locals := 25 } D B adK adV (tysX cC cF cI cZ cM cS) [.int i] [] [] (some (.int zz)) := by
  refine Ct.ofW (cc := cX6_isThird) (maxL := 1) (ret := (some .boolean)) (by decide) rfl (Nat.le_of_ble_eq_true rfl) ?_
  intro p e s m args below meth c hx hb hr hml hts hown hlocks hnm hK hE A Q hQ hB H locs ls hP hD hS hl
  have hl : lv_has ls 1 [(0, .int i)] := hl
  have w0 := hts (.constantLong RX6 157 (2)) (by decide +kernel)
  unfold f_X6_isThird at hf
  refine lv_iload_n hx hb dX6_isThird_0 rfl (lv_at hl 0 rfl) ?_
  refine lv_i2l hx hb dX6_isThird_1 rfl ?_
  refine lv_lconst (v := 0) hx hb dX6_isThird_2 (by decide) ?_
  refine lv_ldc2 hx hb hown w0 dX6_isThird_3 ?_
  obtain ⟨r1, hc2, hf⟩ := bd_inv hf
  refine xcS (As := [.long (i.toInt64), .long 0, .long 2]) (rest := []) (ws' := []) ⟨hx, hb, hml, hown, hts⟩ (c_X6_in l D B adK adV cC cF cI cZ cM cS (i.toInt64) 0 2  r1 hc2) (va_cwS 3 hts gX6_isThird_X6_in rfl rfl rfl (by decide +kernel) ⟨Nat.le_of_ble_eq_true rfl, Nat.le_of_ble_eq_true rfl⟩) hK hP hD hS hB hE [] rfl rfl rfl rfl rfl hl.1 rfl (Nat.le_of_ble_eq_true rfl) dX6_isThird_6 ⟨Nat.le_of_ble_eq_true rfl, Nat.le_of_ble_eq_true rfl⟩ (fun H locs hP hD hS => ?_)
  refine W.eq (g2 := F0 m 9 ls [.int r1]) rfl ?_
  obtain ⟨g3, hf⟩ := gd_inv hf
  have h1 := Option.some.inj hf
  subst h1
  rw [hQ]
  exact W.zret (v := r1) (ty := .boolean) hx hb hr (zok_n g3) (fun t ht hW => qEnd hP hS ht) hS.2.2 dX6_isThird_9
set_option maxRecDepth 100000 in
set_option maxHeartbeats 4000000 in
theorem c_X6_copy (l : Launch) (D : va_G) (B : Nat) (adK adV : Nat → Nat) (cC cF cI cZ cM cS : ClassId) (ma : Nat) (mst : Int32) (mwy : Int32) (mmk : Int32) (mwt : Int32) (m1 : Nat) (m2 : Nat) (m3 : Nat) (m4 : Nat) (mun : Int32) (m5 : Nat) (m6 : Nat) (mln : Int32) (mfi : Int32) (mbe : Int32) (mrs : Int32) (mrw : Int32) (mcl : Int32) (mdo : Int32) (mnu : Int32) (m7 : Nat) (m8 : Nat) (m9 : Nat) (m10 : Nat) (mvl : Nat → Int32) (mof : Nat → Int32) (mw : Nat → Int32) (mf : Nat → UInt32) (mik : Nat → Int32) (mtx : Nat → Int32) (mwd : Nat → Int32) (msz : Nat → Int32) (mso : Nat → Int32) (mpl : Nat → Int32) (i : Int32) (j : Int32) (zz : (Nat → Int32) × (Nat → UInt32)) (hf : f_X6_copy mw mf i j = some zz) : Ct l yX6_copy wsX6_copy { frames := 0, cells := 0, slots := 0, locals := 0 } D B adK adV (tysX cC cF cI cZ cM cS) [.ref ma, .int i, .int j] [(ma, .inr (6, [.int mst, .int mwy, .int mmk, .int mwt, .ref m1, .ref m2, .ref m3, .ref m4, .int mun, .ref m5, .ref m6, .int mln, .int mfi, .int mbe, .int mrs, .int mrw, .int mcl, .int mdo, .int mnu, .ref m7, .ref m8, .ref m9, .ref m10])), (m1, .inl (cI, 24, .inl mvl)), (m2, .inl (cI, 96, .inl mof)), (m3, .inl (cI, 168, .inl mw)), (m4, .inl (cF, 288, .inr (.inr (.inl mf)))), (m5, .inl (cZ, 2, .inl mik)), (m6, .inl (cI, 200, .inl mtx)), (m7, .inl (cI, 56, .inl mwd)), (m8, .inl (cI, 3, .inl msz)), (m9, .inl (cI, 3, .inl mso)), (m10, .inl (cI, 24, .inl mpl))] [(ma, .inr (6, [.int mst, .int mwy, .int mmk, .int mwt, .ref m1, .ref m2, .ref m3, .ref m4, .int mun, .ref m5, .ref m6, .int mln, .int mfi, .int mbe, .int mrs, .int mrw, .int mcl, .int mdo, .int mnu, .ref m7, .ref m8, .ref m9, .ref m10])), (m1, .inl (cI, 24, .inl mvl)), (m2, .inl (cI, 96, .inl mof)), (m3, .inl (cI, 168, .inl zz.1)), (m4, .inl (cF, 288, .inr (.inr (.inl zz.2)))), (m5, .inl (cZ, 2, .inl mik)), (m6, .inl (cI, 200, .inl mtx)), (m7, .inl (cI, 56, .inl mwd)), (m8, .inl (cI, 3, .inl msz)), (m9, .inl (cI, 3, .inl mso)), (m10, .inl (cI, 24, .inl mpl))] none := by
  refine Ct.ofW (cc := cX6_copy) (maxL := 4) (ret := none) (by decide) rfl (Nat.le_of_ble_eq_true rfl) ?_
  intro p e s m args below meth c hx hb hr hml hts hown hlocks hnm hK hE A Q hQ hB H locs ls hP hD hS hl
  have hl : lv_has ls 4 [(0, .ref ma), (1, .int i), (2, .int j)] := hl
  have w0 : ∀ w ∈ u_ws RX6 TX6 23, w ∈ wsX6_copy := by decide +kernel
  have w1 := hts (.fieldLink RX6 20 "MotionStatesModel" "w" "[I") (by decide +kernel)
  have w2 := hts (.fieldLink RX6 23 "MotionStatesModel" "f" "[F") (by decide +kernel)
  have L2 : ∀ (n : Nat) (x3_2 : Int32) (mw_2 : Nat → Int32) (oo : Int32 × (Nat → Int32)), f_X6_copy_L2 i j n x3_2 mw_2 = some oo → ∀ (H : Heap) (locs : List Loc) (ls : Array Slot), va_P D vwCl [(ma, .inr (6, [.int mst, .int mwy, .int mmk, .int mwt, .ref m1, .ref m2, .ref m3, .ref m4, .int mun, .ref m5, .ref m6, .int mln, .int mfi, .int mbe, .int mrs, .int mrw, .int mcl, .int mdo, .int mnu, .ref m7, .ref m8, .ref m9, .ref m10])), (m1, .inl (cI, 24, .inl mvl)), (m2, .inl (cI, 96, .inl mof)), (m3, .inl (cI, 168, .inl mw_2)), (m4, .inl (cF, 288, .inr (.inr (.inl mf)))), (m5, .inl (cZ, 2, .inl mik)), (m6, .inl (cI, 200, .inl mtx)), (m7, .inl (cI, 56, .inl mwd)), (m8, .inl (cI, 3, .inl msz)), (m9, .inl (cI, 3, .inl mso)), (m10, .inl (cI, 24, .inl mpl))] H → va_D A [(ma, .inr (6, [.int mst, .int mwy, .int mmk, .int mwt, .ref m1, .ref m2, .ref m3, .ref m4, .int mun, .ref m5, .ref m6, .int mln, .int mfi, .int mbe, .int mrs, .int mrw, .int mcl, .int mdo, .int mnu, .ref m7, .ref m8, .ref m9, .ref m10])), (m1, .inl (cI, 24, .inl mvl)), (m2, .inl (cI, 96, .inl mof)), (m3, .inl (cI, 168, .inl mw_2)), (m4, .inl (cF, 288, .inr (.inr (.inl mf)))), (m5, .inl (cZ, 2, .inl mik)), (m6, .inl (cI, 200, .inl mtx)), (m7, .inl (cI, 56, .inl mwd)), (m8, .inl (cI, 3, .inl msz)), (m9, .inl (cI, 3, .inl mso)), (m10, .inl (cI, 24, .inl mpl))] → va_S A s.heap H locs → lv_has ls 4 [(3, .int x3_2), (0, .ref ma), (1, .int i), (2, .int j)] → (∀ (H : Heap) (locs : List Loc) (ls : Array Slot), va_P D vwCl [(ma, .inr (6, [.int mst, .int mwy, .int mmk, .int mwt, .ref m1, .ref m2, .ref m3, .ref m4, .int mun, .ref m5, .ref m6, .int mln, .int mfi, .int mbe, .int mrs, .int mrw, .int mcl, .int mdo, .int mnu, .ref m7, .ref m8, .ref m9, .ref m10])), (m1, .inl (cI, 24, .inl mvl)), (m2, .inl (cI, 96, .inl mof)), (m3, .inl (cI, 168, .inl oo.2)), (m4, .inl (cF, 288, .inr (.inr (.inl mf)))), (m5, .inl (cZ, 2, .inl mik)), (m6, .inl (cI, 200, .inl mtx)), (m7, .inl (cI, 56, .inl mwd)), (m8, .inl (cI, 3, .inl msz)), (m9, .inl (cI, 3, .inl mso)), (m10, .inl (cI, 24, .inl mpl))] H → va_D A [(ma, .inr (6, [.int mst, .int mwy, .int mmk, .int mwt, .ref m1, .ref m2, .ref m3, .ref m4, .int mun, .ref m5, .ref m6, .int mln, .int mfi, .int mbe, .int mrs, .int mrw, .int mcl, .int mdo, .int mnu, .ref m7, .ref m8, .ref m9, .ref m10])), (m1, .inl (cI, 24, .inl mvl)), (m2, .inl (cI, 96, .inl mof)), (m3, .inl (cI, 168, .inl oo.2)), (m4, .inl (cF, 288, .inr (.inr (.inl mf)))), (m5, .inl (cZ, 2, .inl mik)), (m6, .inl (cI, 200, .inl mtx)), (m7, .inl (cI, 56, .inl mwd)), (m8, .inl (cI, 3, .inl msz)), (m9, .inl (cI, 3, .inl mso)), (m10, .inl (cI, 24, .inl mpl))] → va_S A s.heap H locs → lv_has ls 4 [(3, .int oo.1), (0, .ref ma), (1, .int i), (2, .int j)] → W p l e { frames := 0, cells := 0, slots := 0, locals := 0 } s m args below meth c H locs 0 0 Q (F0 m 36 ls [])) → W p l e { frames := 0, cells := 0, slots := 0, locals := 0 } s m args below meth c H locs 0 0 Q (F0 m 2 ls []) := by
    intro n
    induction n with
    | zero => intro x3_2 mw_2 oo hf; exact absurd hf (by simp [f_X6_copy_L2])
    | succ n ih =>
      intro x3_2 mw_2 oo hf H locs ls hP hD hS hl kk
      rw [f_X6_copy_L2] at hf
      refine lv_iload_n hx hb dX6_copy_2 rfl (lv_at hl 0 rfl) ?_
      refine lv_bipush (v := 14) hx hb dX6_copy_3 (by decide) ?_
      refine lv_icmp_ge (tgt := 36) hx hb dX6_copy_5 (by decide) (fun c1 => ?_) (fun c1 => ?_)
      · have hf := if_p c1 hf
        have h1 := Option.some.inj hf
        subst h1
        exact kk H locs ls hP hD hS (lv_sub hl [0, 1, 2, 3] rfl)
      · have hf := if_n c1 hf
        refine lv_aload_n hx hb dX6_copy_8 rfl (lv_at hl 1 rfl) ?_
        refine va_get (D := D) (ci := 6) (v := .ref m3) (C := RX6) (T := TX6) (N := 23) hx hb hts w0 hown hK hP 0 rfl rfl 6 (by decide) w1 (fun _ h9 => h9) rfl dX6_copy_9 ?_
        refine lv_bipush (v := 14) hx hb dX6_copy_12 (by decide) ?_
        refine lv_iload_n hx hb dX6_copy_14 rfl (lv_at hl 3 rfl) ?_
        refine lv_imul hx hb dX6_copy_15 ?_
        refine lv_iload_n hx hb dX6_copy_16 rfl (lv_at hl 0 rfl) ?_
        refine lv_iadd hx hb dX6_copy_17 ?_
        refine lv_aload_n hx hb dX6_copy_18 rfl (lv_at hl 1 rfl) ?_
        refine va_get (D := D) (ci := 6) (v := .ref m3) (C := RX6) (T := TX6) (N := 23) hx hb hts w0 hown hK hP 0 rfl rfl 6 (by decide) w1 (fun _ h9 => h9) rfl dX6_copy_19 ?_
        refine lv_bipush (v := 14) hx hb dX6_copy_22 (by decide) ?_
        refine lv_iload_n hx hb dX6_copy_24 rfl (lv_at hl 2 rfl) ?_
        refine lv_imul hx hb dX6_copy_25 ?_
        refine lv_iload_n hx hb dX6_copy_26 rfl (lv_at hl 0 rfl) ?_
        refine lv_iadd hx hb dX6_copy_27 ?_
        obtain ⟨g2, hf⟩ := gd_inv hf
        refine va_iald hx hb hK hP 3 2 rfl rfl g2 dX6_copy_28 ?_
        obtain ⟨g3, hf⟩ := gd_inv hf
        refine va_iast hx hb hK hP hD hS 3 2 rfl rfl g3 dX6_copy_29 (fun H locs hP hD hS => ?_)
        have hP : va_P D vwCl [(ma, .inr (6, [.int mst, .int mwy, .int mmk, .int mwt, .ref m1, .ref m2, .ref m3, .ref m4, .int mun, .ref m5, .ref m6, .int mln, .int mfi, .int mbe, .int mrs, .int mrw, .int mcl, .int mdo, .int mnu, .ref m7, .ref m8, .ref m9, .ref m10])), (m1, .inl (cI, 24, .inl mvl)), (m2, .inl (cI, 96, .inl mof)), (m3, .inl (cI, 168, .inl (upd mw_2 ((((14 : Int32) * j) + x3_2).toNatClampNeg) (mw_2 ((((14 : Int32) * i) + x3_2).toNatClampNeg))))), (m4, .inl (cF, 288, .inr (.inr (.inl mf)))), (m5, .inl (cZ, 2, .inl mik)), (m6, .inl (cI, 200, .inl mtx)), (m7, .inl (cI, 56, .inl mwd)), (m8, .inl (cI, 3, .inl msz)), (m9, .inl (cI, 3, .inl mso)), (m10, .inl (cI, 24, .inl mpl))] H := hP
        have hD : va_D A [(ma, .inr (6, [.int mst, .int mwy, .int mmk, .int mwt, .ref m1, .ref m2, .ref m3, .ref m4, .int mun, .ref m5, .ref m6, .int mln, .int mfi, .int mbe, .int mrs, .int mrw, .int mcl, .int mdo, .int mnu, .ref m7, .ref m8, .ref m9, .ref m10])), (m1, .inl (cI, 24, .inl mvl)), (m2, .inl (cI, 96, .inl mof)), (m3, .inl (cI, 168, .inl (upd mw_2 ((((14 : Int32) * j) + x3_2).toNatClampNeg) (mw_2 ((((14 : Int32) * i) + x3_2).toNatClampNeg))))), (m4, .inl (cF, 288, .inr (.inr (.inl mf)))), (m5, .inl (cZ, 2, .inl mik)), (m6, .inl (cI, 200, .inl mtx)), (m7, .inl (cI, 56, .inl mwd)), (m8, .inl (cI, 3, .inl msz)), (m9, .inl (cI, 3, .inl mso)), (m10, .inl (cI, 24, .inl mpl))] := hD
        refine lv_iinc (v := x3_2 + 1) (lv' := [(3, .int (x3_2 + 1)), (0, .ref ma), (1, .int i), (2, .int j)]) hx hb dX6_copy_30 hl (k := 0) rfl rfl (by decide) rfl (fun ls hl => ?_)
        refine lv_goto (tgt := 2) hx hb dX6_copy_33 (by decide) ?_
        exact ih (x3_2 + 1) (upd mw_2 ((((14 : Int32) * j) + x3_2).toNatClampNeg) (mw_2 ((((14 : Int32) * i) + x3_2).toNatClampNeg))) oo hf H locs ls hP hD hS (lv_sub hl [0, 1, 2, 3] rfl) kk
  have L38 : ∀ (n : Nat) (x3_38 : Int32) (mf_38 : Nat → UInt32) (mw_38 : Nat → Int32) (oo : Int32 × (Nat → Int32) × (Nat → UInt32)), f_X6_copy_L38 i j n x3_38 mf_38 mw_38 = some oo → ∀ (H : Heap) (locs : List Loc) (ls : Array Slot), va_P D vwCl [(ma, .inr (6, [.int mst, .int mwy, .int mmk, .int mwt, .ref m1, .ref m2, .ref m3, .ref m4, .int mun, .ref m5, .ref m6, .int mln, .int mfi, .int mbe, .int mrs, .int mrw, .int mcl, .int mdo, .int mnu, .ref m7, .ref m8, .ref m9, .ref m10])), (m1, .inl (cI, 24, .inl mvl)), (m2, .inl (cI, 96, .inl mof)), (m3, .inl (cI, 168, .inl mw_38)), (m4, .inl (cF, 288, .inr (.inr (.inl mf_38)))), (m5, .inl (cZ, 2, .inl mik)), (m6, .inl (cI, 200, .inl mtx)), (m7, .inl (cI, 56, .inl mwd)), (m8, .inl (cI, 3, .inl msz)), (m9, .inl (cI, 3, .inl mso)), (m10, .inl (cI, 24, .inl mpl))] H → va_D A [(ma, .inr (6, [.int mst, .int mwy, .int mmk, .int mwt, .ref m1, .ref m2, .ref m3, .ref m4, .int mun, .ref m5, .ref m6, .int mln, .int mfi, .int mbe, .int mrs, .int mrw, .int mcl, .int mdo, .int mnu, .ref m7, .ref m8, .ref m9, .ref m10])), (m1, .inl (cI, 24, .inl mvl)), (m2, .inl (cI, 96, .inl mof)), (m3, .inl (cI, 168, .inl mw_38)), (m4, .inl (cF, 288, .inr (.inr (.inl mf_38)))), (m5, .inl (cZ, 2, .inl mik)), (m6, .inl (cI, 200, .inl mtx)), (m7, .inl (cI, 56, .inl mwd)), (m8, .inl (cI, 3, .inl msz)), (m9, .inl (cI, 3, .inl mso)), (m10, .inl (cI, 24, .inl mpl))] → va_S A s.heap H locs → lv_has ls 4 [(3, .int x3_38), (0, .ref ma), (1, .int i), (2, .int j)] → (∀ (H : Heap) (locs : List Loc) (ls : Array Slot), va_P D vwCl [(ma, .inr (6, [.int mst, .int mwy, .int mmk, .int mwt, .ref m1, .ref m2, .ref m3, .ref m4, .int mun, .ref m5, .ref m6, .int mln, .int mfi, .int mbe, .int mrs, .int mrw, .int mcl, .int mdo, .int mnu, .ref m7, .ref m8, .ref m9, .ref m10])), (m1, .inl (cI, 24, .inl mvl)), (m2, .inl (cI, 96, .inl mof)), (m3, .inl (cI, 168, .inl oo.2.1)), (m4, .inl (cF, 288, .inr (.inr (.inl oo.2.2)))), (m5, .inl (cZ, 2, .inl mik)), (m6, .inl (cI, 200, .inl mtx)), (m7, .inl (cI, 56, .inl mwd)), (m8, .inl (cI, 3, .inl msz)), (m9, .inl (cI, 3, .inl mso)), (m10, .inl (cI, 24, .inl mpl))] H → va_D A [(ma, .inr (6, [.int mst, .int mwy, .int mmk, .int mwt, .ref m1, .ref m2, .ref m3, .ref m4, .int mun, .ref m5, .ref m6, .int mln, .int mfi, .int mbe, .int mrs, .int mrw, .int mcl, .int mdo, .int mnu, .ref m7, .ref m8, .ref m9, .ref m10])), (m1, .inl (cI, 24, .inl mvl)), (m2, .inl (cI, 96, .inl mof)), (m3, .inl (cI, 168, .inl oo.2.1)), (m4, .inl (cF, 288, .inr (.inr (.inl oo.2.2)))), (m5, .inl (cZ, 2, .inl mik)), (m6, .inl (cI, 200, .inl mtx)), (m7, .inl (cI, 56, .inl mwd)), (m8, .inl (cI, 3, .inl msz)), (m9, .inl (cI, 3, .inl mso)), (m10, .inl (cI, 24, .inl mpl))] → va_S A s.heap H locs → lv_has ls 4 [(3, .int oo.1), (0, .ref ma), (1, .int i), (2, .int j)] → W p l e { frames := 0, cells := 0, slots := 0, locals := 0 } s m args below meth c H locs 0 0 Q (F0 m 72 ls [])) → W p l e { frames := 0, cells := 0, slots := 0, locals := 0 } s m args below meth c H locs 0 0 Q (F0 m 38 ls []) := by
    intro n
    induction n with
    | zero => intro x3_38 mf_38 mw_38 oo hf; exact absurd hf (by simp [f_X6_copy_L38])
    | succ n ih =>
      intro x3_38 mf_38 mw_38 oo hf H locs ls hP hD hS hl kk
      rw [f_X6_copy_L38] at hf
      refine lv_iload_n hx hb dX6_copy_38 rfl (lv_at hl 0 rfl) ?_
      refine lv_bipush (v := 24) hx hb dX6_copy_39 (by decide) ?_
      refine lv_icmp_ge (tgt := 72) hx hb dX6_copy_41 (by decide) (fun c6 => ?_) (fun c6 => ?_)
      · have hf := if_p c6 hf
        have h1 := Option.some.inj hf
        subst h1
        exact kk H locs ls hP hD hS (lv_sub hl [0, 1, 2, 3] rfl)
      · have hf := if_n c6 hf
        refine lv_aload_n hx hb dX6_copy_44 rfl (lv_at hl 1 rfl) ?_
        refine va_get (D := D) (ci := 6) (v := .ref m4) (C := RX6) (T := TX6) (N := 23) hx hb hts w0 hown hK hP 0 rfl rfl 7 (by decide) w2 (fun _ h9 => h9) rfl dX6_copy_45 ?_
        refine lv_bipush (v := 24) hx hb dX6_copy_48 (by decide) ?_
        refine lv_iload_n hx hb dX6_copy_50 rfl (lv_at hl 3 rfl) ?_
        refine lv_imul hx hb dX6_copy_51 ?_
        refine lv_iload_n hx hb dX6_copy_52 rfl (lv_at hl 0 rfl) ?_
        refine lv_iadd hx hb dX6_copy_53 ?_
        refine lv_aload_n hx hb dX6_copy_54 rfl (lv_at hl 1 rfl) ?_
        refine va_get (D := D) (ci := 6) (v := .ref m4) (C := RX6) (T := TX6) (N := 23) hx hb hts w0 hown hK hP 0 rfl rfl 7 (by decide) w2 (fun _ h9 => h9) rfl dX6_copy_55 ?_
        refine lv_bipush (v := 24) hx hb dX6_copy_58 (by decide) ?_
        refine lv_iload_n hx hb dX6_copy_60 rfl (lv_at hl 2 rfl) ?_
        refine lv_imul hx hb dX6_copy_61 ?_
        refine lv_iload_n hx hb dX6_copy_62 rfl (lv_at hl 0 rfl) ?_
        refine lv_iadd hx hb dX6_copy_63 ?_
        obtain ⟨g7, hf⟩ := gd_inv hf
        refine va_fald hx hb hK hP 4 1 rfl rfl g7 dX6_copy_64 ?_
        obtain ⟨g8, hf⟩ := gd_inv hf
        refine va_fast hx hb hK hP hD hS 4 1 rfl rfl g8 dX6_copy_65 (fun H locs hP hD hS => ?_)
        have hP : va_P D vwCl [(ma, .inr (6, [.int mst, .int mwy, .int mmk, .int mwt, .ref m1, .ref m2, .ref m3, .ref m4, .int mun, .ref m5, .ref m6, .int mln, .int mfi, .int mbe, .int mrs, .int mrw, .int mcl, .int mdo, .int mnu, .ref m7, .ref m8, .ref m9, .ref m10])), (m1, .inl (cI, 24, .inl mvl)), (m2, .inl (cI, 96, .inl mof)), (m3, .inl (cI, 168, .inl mw_38)), (m4, .inl (cF, 288, .inr (.inr (.inl (vf_upd mf_38 ((((24 : Int32) * j) + x3_38).toNatClampNeg) (mf_38 ((((24 : Int32) * i) + x3_38).toNatClampNeg))))))), (m5, .inl (cZ, 2, .inl mik)), (m6, .inl (cI, 200, .inl mtx)), (m7, .inl (cI, 56, .inl mwd)), (m8, .inl (cI, 3, .inl msz)), (m9, .inl (cI, 3, .inl mso)), (m10, .inl (cI, 24, .inl mpl))] H := hP
        have hD : va_D A [(ma, .inr (6, [.int mst, .int mwy, .int mmk, .int mwt, .ref m1, .ref m2, .ref m3, .ref m4, .int mun, .ref m5, .ref m6, .int mln, .int mfi, .int mbe, .int mrs, .int mrw, .int mcl, .int mdo, .int mnu, .ref m7, .ref m8, .ref m9, .ref m10])), (m1, .inl (cI, 24, .inl mvl)), (m2, .inl (cI, 96, .inl mof)), (m3, .inl (cI, 168, .inl mw_38)), (m4, .inl (cF, 288, .inr (.inr (.inl (vf_upd mf_38 ((((24 : Int32) * j) + x3_38).toNatClampNeg) (mf_38 ((((24 : Int32) * i) + x3_38).toNatClampNeg))))))), (m5, .inl (cZ, 2, .inl mik)), (m6, .inl (cI, 200, .inl mtx)), (m7, .inl (cI, 56, .inl mwd)), (m8, .inl (cI, 3, .inl msz)), (m9, .inl (cI, 3, .inl mso)), (m10, .inl (cI, 24, .inl mpl))] := hD
        refine lv_iinc (v := x3_38 + 1) (lv' := [(3, .int (x3_38 + 1)), (0, .ref ma), (1, .int i), (2, .int j)]) hx hb dX6_copy_66 hl (k := 0) rfl rfl (by decide) rfl (fun ls hl => ?_)
        refine lv_goto (tgt := 38) hx hb dX6_copy_69 (by decide) ?_
        exact ih (x3_38 + 1) (vf_upd mf_38 ((((24 : Int32) * j) + x3_38).toNatClampNeg) (mf_38 ((((24 : Int32) * i) + x3_38).toNatClampNeg))) mw_38 oo hf H locs ls hP hD hS (lv_sub hl [0, 1, 2, 3] rfl) kk
  unfold f_X6_copy at hf
  refine lv_iconst (v := 0) hx hb dX6_copy_0 (by decide) ?_
  refine lv_istore_n (lv' := [(3, .int 0), (0, .ref ma), (1, .int i), (2, .int j)]) hx hb dX6_copy_1 rfl hl (by decide) rfl (fun ls hl => ?_)
  obtain ⟨⟨q4, q5⟩, hq13, hf⟩ := bd_inv hf
  refine L2 1000 0 mw (q4, q5) hq13 H locs ls hP hD hS (lv_sub hl [0, 1, 2, 3] rfl) (fun H locs ls hP hD hS hl => ?_)
  have hP : va_P D vwCl [(ma, .inr (6, [.int mst, .int mwy, .int mmk, .int mwt, .ref m1, .ref m2, .ref m3, .ref m4, .int mun, .ref m5, .ref m6, .int mln, .int mfi, .int mbe, .int mrs, .int mrw, .int mcl, .int mdo, .int mnu, .ref m7, .ref m8, .ref m9, .ref m10])), (m1, .inl (cI, 24, .inl mvl)), (m2, .inl (cI, 96, .inl mof)), (m3, .inl (cI, 168, .inl q5)), (m4, .inl (cF, 288, .inr (.inr (.inl mf)))), (m5, .inl (cZ, 2, .inl mik)), (m6, .inl (cI, 200, .inl mtx)), (m7, .inl (cI, 56, .inl mwd)), (m8, .inl (cI, 3, .inl msz)), (m9, .inl (cI, 3, .inl mso)), (m10, .inl (cI, 24, .inl mpl))] H := hP
  have hD : va_D A [(ma, .inr (6, [.int mst, .int mwy, .int mmk, .int mwt, .ref m1, .ref m2, .ref m3, .ref m4, .int mun, .ref m5, .ref m6, .int mln, .int mfi, .int mbe, .int mrs, .int mrw, .int mcl, .int mdo, .int mnu, .ref m7, .ref m8, .ref m9, .ref m10])), (m1, .inl (cI, 24, .inl mvl)), (m2, .inl (cI, 96, .inl mof)), (m3, .inl (cI, 168, .inl q5)), (m4, .inl (cF, 288, .inr (.inr (.inl mf)))), (m5, .inl (cZ, 2, .inl mik)), (m6, .inl (cI, 200, .inl mtx)), (m7, .inl (cI, 56, .inl mwd)), (m8, .inl (cI, 3, .inl msz)), (m9, .inl (cI, 3, .inl mso)), (m10, .inl (cI, 24, .inl mpl))] := hD
  have hl : lv_has ls 4 [(3, .int q4), (0, .ref ma), (1, .int i), (2, .int j)] := hl
  refine lv_iconst (v := 0) hx hb dX6_copy_36 (by decide) ?_
  refine lv_istore_n (lv' := [(3, .int 0), (0, .ref ma), (1, .int i), (2, .int j)]) hx hb dX6_copy_37 rfl hl (by decide) rfl (fun ls hl => ?_)
  obtain ⟨⟨q9, q10, q11⟩, hq12, hf⟩ := bd_inv hf
  refine L38 1000 0 mf q5 (q9, q10, q11) hq12 H locs ls hP hD hS (lv_sub hl [0, 1, 2, 3] rfl) (fun H locs ls hP hD hS hl => ?_)
  have hP : va_P D vwCl [(ma, .inr (6, [.int mst, .int mwy, .int mmk, .int mwt, .ref m1, .ref m2, .ref m3, .ref m4, .int mun, .ref m5, .ref m6, .int mln, .int mfi, .int mbe, .int mrs, .int mrw, .int mcl, .int mdo, .int mnu, .ref m7, .ref m8, .ref m9, .ref m10])), (m1, .inl (cI, 24, .inl mvl)), (m2, .inl (cI, 96, .inl mof)), (m3, .inl (cI, 168, .inl q10)), (m4, .inl (cF, 288, .inr (.inr (.inl q11)))), (m5, .inl (cZ, 2, .inl mik)), (m6, .inl (cI, 200, .inl mtx)), (m7, .inl (cI, 56, .inl mwd)), (m8, .inl (cI, 3, .inl msz)), (m9, .inl (cI, 3, .inl mso)), (m10, .inl (cI, 24, .inl mpl))] H := hP
  have hD : va_D A [(ma, .inr (6, [.int mst, .int mwy, .int mmk, .int mwt, .ref m1, .ref m2, .ref m3, .ref m4, .int mun, .ref m5, .ref m6, .int mln, .int mfi, .int mbe, .int mrs, .int mrw, .int mcl, .int mdo, .int mnu, .ref m7, .ref m8, .ref m9, .ref m10])), (m1, .inl (cI, 24, .inl mvl)), (m2, .inl (cI, 96, .inl mof)), (m3, .inl (cI, 168, .inl q10)), (m4, .inl (cF, 288, .inr (.inr (.inl q11)))), (m5, .inl (cZ, 2, .inl mik)), (m6, .inl (cI, 200, .inl mtx)), (m7, .inl (cI, 56, .inl mwd)), (m8, .inl (cI, 3, .inl msz)), (m9, .inl (cI, 3, .inl mso)), (m10, .inl (cI, 24, .inl mpl))] := hD
  have hl : lv_has ls 4 [(3, .int q9), (0, .ref ma), (1, .int i), (2, .int j)] := hl
  have h1 := Option.some.inj hf
  subst h1
  rw [hQ]
  exact W.vret hx hb hr (fun t ht hW => qEnd hP hS ht) hS.2.2 dX6_copy_72
set_option maxRecDepth 100000 in
set_option maxHeartbeats 4000000 in
theorem c_X6_starts (l : Launch) (D : va_G) (B : Nat) (adK adV : Nat → Nat) (cC cF cI cZ cM cS : ClassId) (ma : Nat) (mst : Int32) (mwy : Int32) (mmk : Int32) (mwt : Int32) (m1 : Nat) (m2 : Nat) (m3 : Nat) (m4 : Nat) (mun : Int32) (m5 : Nat) (m6 : Nat) (mln : Int32) (mfi : Int32) (mbe : Int32) (mrs : Int32) (mrw : Int32) (mcl : Int32) (mdo : Int32) (mnu : Int32) (m7 : Nat) (m8 : Nat) (m9 : Nat) (m10 : Nat) (mvl : Nat → Int32) (mof : Nat → Int32) (mw : Nat → Int32) (mf : Nat → UInt32) (mik : Nat → Int32) (mtx : Nat → Int32) (mwd : Nat → Int32) (msz : Nat → Int32) (mso : Nat → Int32) (mpl : Nat → Int32) (zz : (Nat → Int32) × (Nat → UInt32) × (Nat → Int32) × (Nat → Int32) × Int32) (hf : f_X6_starts mw mf mik msz = some zz) : Ct l yX6_starts wsX6_starts { frames := 0, cells := 0, slots := 0, locals := 0 } D B adK adV (tysX cC cF cI cZ cM cS) [.ref ma] [(ma, .inr (6, [.int mst, .int mwy, .int mmk, .int mwt, .ref m1, .ref m2, .ref m3, .ref m4, .int mun, .ref m5, .ref m6, .int mln, .int mfi, .int mbe, .int mrs, .int mrw, .int mcl, .int mdo, .int mnu, .ref m7, .ref m8, .ref m9, .ref m10])), (m1, .inl (cI, 24, .inl mvl)), (m2, .inl (cI, 96, .inl mof)), (m3, .inl (cI, 168, .inl mw)), (m4, .inl (cF, 288, .inr (.inr (.inl mf)))), (m5, .inl (cZ, 2, .inl mik)), (m6, .inl (cI, 200, .inl mtx)), (m7, .inl (cI, 56, .inl mwd)), (m8, .inl (cI, 3, .inl msz)), (m9, .inl (cI, 3, .inl mso)), (m10, .inl (cI, 24, .inl mpl))] [(ma, .inr (6, [.int mst, .int mwy, .int mmk, .int mwt, .ref m1, .ref m2, .ref m3, .ref m4, .int zz.2.2.2.2, .ref m5, .ref m6, .int mln, .int mfi, .int mbe, .int mrs, .int mrw, .int mcl, .int mdo, .int mnu, .ref m7, .ref m8, .ref m9, .ref m10])), (m1, .inl (cI, 24, .inl mvl)), (m2, .inl (cI, 96, .inl mof)), (m3, .inl (cI, 168, .inl zz.1)), (m4, .inl (cF, 288, .inr (.inr (.inl zz.2.1)))), (m5, .inl (cZ, 2, .inl zz.2.2.1)), (m6, .inl (cI, 200, .inl mtx)), (m7, .inl (cI, 56, .inl mwd)), (m8, .inl (cI, 3, .inl zz.2.2.2.1)), (m9, .inl (cI, 3, .inl mso)), (m10, .inl (cI, 24, .inl mpl))] none := by
  refine Ct.ofW (cc := cX6_starts) (maxL := 2) (ret := none) (by decide) rfl (Nat.le_of_ble_eq_true rfl) ?_
  intro p e s m args below meth c hx hb hr hml hts hown hlocks hnm hK hE A Q hQ hB H locs ls hP hD hS hl
  have hl : lv_has ls 2 [(0, .ref ma)] := hl
  have w0 : ∀ w ∈ u_ws RX6 TX6 23, w ∈ wsX6_starts := by decide +kernel
  have w1 := hts (.fieldLink RX6 20 "MotionStatesModel" "w" "[I") (by decide +kernel)
  have w2 := hts (.fieldLink RX6 23 "MotionStatesModel" "f" "[F") (by decide +kernel)
  have w3 := hts (.fieldLink RX6 49 "MotionStatesModel" "undos" "I") (by decide +kernel)
  have w4 := hts (.fieldLink RX6 27 "MotionStatesModel" "isKept" "[Z") (by decide +kernel)
  have w5 := hts (.fieldLink RX6 37 "MotionStatesModel" "sizes" "[I") (by decide +kernel)
  have L2 : ∀ (n : Nat) (x1_2 : Int32) (mw_2 : Nat → Int32) (oo : Int32 × (Nat → Int32)), f_X6_starts_L2 n x1_2 mw_2 = some oo → ∀ (H : Heap) (locs : List Loc) (ls : Array Slot), va_P D vwCl [(ma, .inr (6, [.int mst, .int mwy, .int mmk, .int mwt, .ref m1, .ref m2, .ref m3, .ref m4, .int mun, .ref m5, .ref m6, .int mln, .int mfi, .int mbe, .int mrs, .int mrw, .int mcl, .int mdo, .int mnu, .ref m7, .ref m8, .ref m9, .ref m10])), (m1, .inl (cI, 24, .inl mvl)), (m2, .inl (cI, 96, .inl mof)), (m3, .inl (cI, 168, .inl mw_2)), (m4, .inl (cF, 288, .inr (.inr (.inl mf)))), (m5, .inl (cZ, 2, .inl mik)), (m6, .inl (cI, 200, .inl mtx)), (m7, .inl (cI, 56, .inl mwd)), (m8, .inl (cI, 3, .inl msz)), (m9, .inl (cI, 3, .inl mso)), (m10, .inl (cI, 24, .inl mpl))] H → va_D A [(ma, .inr (6, [.int mst, .int mwy, .int mmk, .int mwt, .ref m1, .ref m2, .ref m3, .ref m4, .int mun, .ref m5, .ref m6, .int mln, .int mfi, .int mbe, .int mrs, .int mrw, .int mcl, .int mdo, .int mnu, .ref m7, .ref m8, .ref m9, .ref m10])), (m1, .inl (cI, 24, .inl mvl)), (m2, .inl (cI, 96, .inl mof)), (m3, .inl (cI, 168, .inl mw_2)), (m4, .inl (cF, 288, .inr (.inr (.inl mf)))), (m5, .inl (cZ, 2, .inl mik)), (m6, .inl (cI, 200, .inl mtx)), (m7, .inl (cI, 56, .inl mwd)), (m8, .inl (cI, 3, .inl msz)), (m9, .inl (cI, 3, .inl mso)), (m10, .inl (cI, 24, .inl mpl))] → va_S A s.heap H locs → lv_has ls 2 [(1, .int x1_2), (0, .ref ma)] → (∀ (H : Heap) (locs : List Loc) (ls : Array Slot), va_P D vwCl [(ma, .inr (6, [.int mst, .int mwy, .int mmk, .int mwt, .ref m1, .ref m2, .ref m3, .ref m4, .int mun, .ref m5, .ref m6, .int mln, .int mfi, .int mbe, .int mrs, .int mrw, .int mcl, .int mdo, .int mnu, .ref m7, .ref m8, .ref m9, .ref m10])), (m1, .inl (cI, 24, .inl mvl)), (m2, .inl (cI, 96, .inl mof)), (m3, .inl (cI, 168, .inl oo.2)), (m4, .inl (cF, 288, .inr (.inr (.inl mf)))), (m5, .inl (cZ, 2, .inl mik)), (m6, .inl (cI, 200, .inl mtx)), (m7, .inl (cI, 56, .inl mwd)), (m8, .inl (cI, 3, .inl msz)), (m9, .inl (cI, 3, .inl mso)), (m10, .inl (cI, 24, .inl mpl))] H → va_D A [(ma, .inr (6, [.int mst, .int mwy, .int mmk, .int mwt, .ref m1, .ref m2, .ref m3, .ref m4, .int mun, .ref m5, .ref m6, .int mln, .int mfi, .int mbe, .int mrs, .int mrw, .int mcl, .int mdo, .int mnu, .ref m7, .ref m8, .ref m9, .ref m10])), (m1, .inl (cI, 24, .inl mvl)), (m2, .inl (cI, 96, .inl mof)), (m3, .inl (cI, 168, .inl oo.2)), (m4, .inl (cF, 288, .inr (.inr (.inl mf)))), (m5, .inl (cZ, 2, .inl mik)), (m6, .inl (cI, 200, .inl mtx)), (m7, .inl (cI, 56, .inl mwd)), (m8, .inl (cI, 3, .inl msz)), (m9, .inl (cI, 3, .inl mso)), (m10, .inl (cI, 24, .inl mpl))] → va_S A s.heap H locs → lv_has ls 2 [(1, .int oo.1), (0, .ref ma)] → W p l e { frames := 0, cells := 0, slots := 0, locals := 0 } s m args below meth c H locs 0 0 Q (F0 m 21 ls [])) → W p l e { frames := 0, cells := 0, slots := 0, locals := 0 } s m args below meth c H locs 0 0 Q (F0 m 2 ls []) := by
    intro n
    induction n with
    | zero => intro x1_2 mw_2 oo hf; exact absurd hf (by simp [f_X6_starts_L2])
    | succ n ih =>
      intro x1_2 mw_2 oo hf H locs ls hP hD hS hl kk
      rw [f_X6_starts_L2] at hf
      refine lv_iload_n hx hb dX6_starts_2 rfl (lv_at hl 0 rfl) ?_
      refine lv_bipush (v := 14) hx hb dX6_starts_3 (by decide) ?_
      refine lv_icmp_ge (tgt := 21) hx hb dX6_starts_5 (by decide) (fun c1 => ?_) (fun c1 => ?_)
      · have hf := if_p c1 hf
        have h1 := Option.some.inj hf
        subst h1
        exact kk H locs ls hP hD hS (lv_sub hl [0, 1] rfl)
      · have hf := if_n c1 hf
        refine lv_aload_n hx hb dX6_starts_8 rfl (lv_at hl 1 rfl) ?_
        refine va_get (D := D) (ci := 6) (v := .ref m3) (C := RX6) (T := TX6) (N := 23) hx hb hts w0 hown hK hP 0 rfl rfl 6 (by decide) w1 (fun _ h9 => h9) rfl dX6_starts_9 ?_
        refine lv_iload_n hx hb dX6_starts_12 rfl (lv_at hl 0 rfl) ?_
        refine lv_iconst (v := 0) hx hb dX6_starts_13 (by decide) ?_
        obtain ⟨g2, hf⟩ := gd_inv hf
        refine va_iast hx hb hK hP hD hS 3 2 rfl rfl g2 dX6_starts_14 (fun H locs hP hD hS => ?_)
        have hP : va_P D vwCl [(ma, .inr (6, [.int mst, .int mwy, .int mmk, .int mwt, .ref m1, .ref m2, .ref m3, .ref m4, .int mun, .ref m5, .ref m6, .int mln, .int mfi, .int mbe, .int mrs, .int mrw, .int mcl, .int mdo, .int mnu, .ref m7, .ref m8, .ref m9, .ref m10])), (m1, .inl (cI, 24, .inl mvl)), (m2, .inl (cI, 96, .inl mof)), (m3, .inl (cI, 168, .inl (upd mw_2 x1_2.toNatClampNeg 0))), (m4, .inl (cF, 288, .inr (.inr (.inl mf)))), (m5, .inl (cZ, 2, .inl mik)), (m6, .inl (cI, 200, .inl mtx)), (m7, .inl (cI, 56, .inl mwd)), (m8, .inl (cI, 3, .inl msz)), (m9, .inl (cI, 3, .inl mso)), (m10, .inl (cI, 24, .inl mpl))] H := hP
        have hD : va_D A [(ma, .inr (6, [.int mst, .int mwy, .int mmk, .int mwt, .ref m1, .ref m2, .ref m3, .ref m4, .int mun, .ref m5, .ref m6, .int mln, .int mfi, .int mbe, .int mrs, .int mrw, .int mcl, .int mdo, .int mnu, .ref m7, .ref m8, .ref m9, .ref m10])), (m1, .inl (cI, 24, .inl mvl)), (m2, .inl (cI, 96, .inl mof)), (m3, .inl (cI, 168, .inl (upd mw_2 x1_2.toNatClampNeg 0))), (m4, .inl (cF, 288, .inr (.inr (.inl mf)))), (m5, .inl (cZ, 2, .inl mik)), (m6, .inl (cI, 200, .inl mtx)), (m7, .inl (cI, 56, .inl mwd)), (m8, .inl (cI, 3, .inl msz)), (m9, .inl (cI, 3, .inl mso)), (m10, .inl (cI, 24, .inl mpl))] := hD
        refine lv_iinc (v := x1_2 + 1) (lv' := [(1, .int (x1_2 + 1)), (0, .ref ma)]) hx hb dX6_starts_15 hl (k := 0) rfl rfl (by decide) rfl (fun ls hl => ?_)
        refine lv_goto (tgt := 2) hx hb dX6_starts_18 (by decide) ?_
        exact ih (x1_2 + 1) (upd mw_2 x1_2.toNatClampNeg 0) oo hf H locs ls hP hD hS (lv_sub hl [0, 1] rfl) kk
  have L23 : ∀ (n : Nat) (x1_23 : Int32) (mf_23 : Nat → UInt32) (mw_23 : Nat → Int32) (oo : Int32 × (Nat → Int32) × (Nat → UInt32)), f_X6_starts_L23 n x1_23 mf_23 mw_23 = some oo → ∀ (H : Heap) (locs : List Loc) (ls : Array Slot), va_P D vwCl [(ma, .inr (6, [.int mst, .int mwy, .int mmk, .int mwt, .ref m1, .ref m2, .ref m3, .ref m4, .int mun, .ref m5, .ref m6, .int mln, .int mfi, .int mbe, .int mrs, .int mrw, .int mcl, .int mdo, .int mnu, .ref m7, .ref m8, .ref m9, .ref m10])), (m1, .inl (cI, 24, .inl mvl)), (m2, .inl (cI, 96, .inl mof)), (m3, .inl (cI, 168, .inl mw_23)), (m4, .inl (cF, 288, .inr (.inr (.inl mf_23)))), (m5, .inl (cZ, 2, .inl mik)), (m6, .inl (cI, 200, .inl mtx)), (m7, .inl (cI, 56, .inl mwd)), (m8, .inl (cI, 3, .inl msz)), (m9, .inl (cI, 3, .inl mso)), (m10, .inl (cI, 24, .inl mpl))] H → va_D A [(ma, .inr (6, [.int mst, .int mwy, .int mmk, .int mwt, .ref m1, .ref m2, .ref m3, .ref m4, .int mun, .ref m5, .ref m6, .int mln, .int mfi, .int mbe, .int mrs, .int mrw, .int mcl, .int mdo, .int mnu, .ref m7, .ref m8, .ref m9, .ref m10])), (m1, .inl (cI, 24, .inl mvl)), (m2, .inl (cI, 96, .inl mof)), (m3, .inl (cI, 168, .inl mw_23)), (m4, .inl (cF, 288, .inr (.inr (.inl mf_23)))), (m5, .inl (cZ, 2, .inl mik)), (m6, .inl (cI, 200, .inl mtx)), (m7, .inl (cI, 56, .inl mwd)), (m8, .inl (cI, 3, .inl msz)), (m9, .inl (cI, 3, .inl mso)), (m10, .inl (cI, 24, .inl mpl))] → va_S A s.heap H locs → lv_has ls 2 [(1, .int x1_23), (0, .ref ma)] → (∀ (H : Heap) (locs : List Loc) (ls : Array Slot), va_P D vwCl [(ma, .inr (6, [.int mst, .int mwy, .int mmk, .int mwt, .ref m1, .ref m2, .ref m3, .ref m4, .int mun, .ref m5, .ref m6, .int mln, .int mfi, .int mbe, .int mrs, .int mrw, .int mcl, .int mdo, .int mnu, .ref m7, .ref m8, .ref m9, .ref m10])), (m1, .inl (cI, 24, .inl mvl)), (m2, .inl (cI, 96, .inl mof)), (m3, .inl (cI, 168, .inl oo.2.1)), (m4, .inl (cF, 288, .inr (.inr (.inl oo.2.2)))), (m5, .inl (cZ, 2, .inl mik)), (m6, .inl (cI, 200, .inl mtx)), (m7, .inl (cI, 56, .inl mwd)), (m8, .inl (cI, 3, .inl msz)), (m9, .inl (cI, 3, .inl mso)), (m10, .inl (cI, 24, .inl mpl))] H → va_D A [(ma, .inr (6, [.int mst, .int mwy, .int mmk, .int mwt, .ref m1, .ref m2, .ref m3, .ref m4, .int mun, .ref m5, .ref m6, .int mln, .int mfi, .int mbe, .int mrs, .int mrw, .int mcl, .int mdo, .int mnu, .ref m7, .ref m8, .ref m9, .ref m10])), (m1, .inl (cI, 24, .inl mvl)), (m2, .inl (cI, 96, .inl mof)), (m3, .inl (cI, 168, .inl oo.2.1)), (m4, .inl (cF, 288, .inr (.inr (.inl oo.2.2)))), (m5, .inl (cZ, 2, .inl mik)), (m6, .inl (cI, 200, .inl mtx)), (m7, .inl (cI, 56, .inl mwd)), (m8, .inl (cI, 3, .inl msz)), (m9, .inl (cI, 3, .inl mso)), (m10, .inl (cI, 24, .inl mpl))] → va_S A s.heap H locs → lv_has ls 2 [(1, .int oo.1), (0, .ref ma)] → W p l e { frames := 0, cells := 0, slots := 0, locals := 0 } s m args below meth c H locs 0 0 Q (F0 m 42 ls [])) → W p l e { frames := 0, cells := 0, slots := 0, locals := 0 } s m args below meth c H locs 0 0 Q (F0 m 23 ls []) := by
    intro n
    induction n with
    | zero => intro x1_23 mf_23 mw_23 oo hf; exact absurd hf (by simp [f_X6_starts_L23])
    | succ n ih =>
      intro x1_23 mf_23 mw_23 oo hf H locs ls hP hD hS hl kk
      rw [f_X6_starts_L23] at hf
      refine lv_iload_n hx hb dX6_starts_23 rfl (lv_at hl 0 rfl) ?_
      refine lv_bipush (v := 24) hx hb dX6_starts_24 (by decide) ?_
      refine lv_icmp_ge (tgt := 42) hx hb dX6_starts_26 (by decide) (fun c5 => ?_) (fun c5 => ?_)
      · have hf := if_p c5 hf
        have h1 := Option.some.inj hf
        subst h1
        exact kk H locs ls hP hD hS (lv_sub hl [0, 1] rfl)
      · have hf := if_n c5 hf
        refine lv_aload_n hx hb dX6_starts_29 rfl (lv_at hl 1 rfl) ?_
        refine va_get (D := D) (ci := 6) (v := .ref m4) (C := RX6) (T := TX6) (N := 23) hx hb hts w0 hown hK hP 0 rfl rfl 7 (by decide) w2 (fun _ h9 => h9) rfl dX6_starts_30 ?_
        refine lv_iload_n hx hb dX6_starts_33 rfl (lv_at hl 0 rfl) ?_
        refine lv_fconst0 hx hb dX6_starts_34 ?_
        obtain ⟨g6, hf⟩ := gd_inv hf
        refine va_fast hx hb hK hP hD hS 4 1 rfl rfl g6 dX6_starts_35 (fun H locs hP hD hS => ?_)
        have hP : va_P D vwCl [(ma, .inr (6, [.int mst, .int mwy, .int mmk, .int mwt, .ref m1, .ref m2, .ref m3, .ref m4, .int mun, .ref m5, .ref m6, .int mln, .int mfi, .int mbe, .int mrs, .int mrw, .int mcl, .int mdo, .int mnu, .ref m7, .ref m8, .ref m9, .ref m10])), (m1, .inl (cI, 24, .inl mvl)), (m2, .inl (cI, 96, .inl mof)), (m3, .inl (cI, 168, .inl mw_23)), (m4, .inl (cF, 288, .inr (.inr (.inl (vf_upd mf_23 x1_23.toNatClampNeg FP.fconst0))))), (m5, .inl (cZ, 2, .inl mik)), (m6, .inl (cI, 200, .inl mtx)), (m7, .inl (cI, 56, .inl mwd)), (m8, .inl (cI, 3, .inl msz)), (m9, .inl (cI, 3, .inl mso)), (m10, .inl (cI, 24, .inl mpl))] H := hP
        have hD : va_D A [(ma, .inr (6, [.int mst, .int mwy, .int mmk, .int mwt, .ref m1, .ref m2, .ref m3, .ref m4, .int mun, .ref m5, .ref m6, .int mln, .int mfi, .int mbe, .int mrs, .int mrw, .int mcl, .int mdo, .int mnu, .ref m7, .ref m8, .ref m9, .ref m10])), (m1, .inl (cI, 24, .inl mvl)), (m2, .inl (cI, 96, .inl mof)), (m3, .inl (cI, 168, .inl mw_23)), (m4, .inl (cF, 288, .inr (.inr (.inl (vf_upd mf_23 x1_23.toNatClampNeg FP.fconst0))))), (m5, .inl (cZ, 2, .inl mik)), (m6, .inl (cI, 200, .inl mtx)), (m7, .inl (cI, 56, .inl mwd)), (m8, .inl (cI, 3, .inl msz)), (m9, .inl (cI, 3, .inl mso)), (m10, .inl (cI, 24, .inl mpl))] := hD
        refine lv_iinc (v := x1_23 + 1) (lv' := [(1, .int (x1_23 + 1)), (0, .ref ma)]) hx hb dX6_starts_36 hl (k := 0) rfl rfl (by decide) rfl (fun ls hl => ?_)
        refine lv_goto (tgt := 23) hx hb dX6_starts_39 (by decide) ?_
        exact ih (x1_23 + 1) (vf_upd mf_23 x1_23.toNatClampNeg FP.fconst0) mw_23 oo hf H locs ls hP hD hS (lv_sub hl [0, 1] rfl) kk
  have L44 : ∀ (n : Nat) (x1_44 : Int32) (mw_44 : Nat → Int32) (mf_44 : Nat → UInt32) (oo : Int32 × (Nat → Int32) × (Nat → UInt32)), f_X6_starts_L44 n x1_44 mw_44 mf_44 = some oo → ∀ (H : Heap) (locs : List Loc) (ls : Array Slot), va_P D vwCl [(ma, .inr (6, [.int mst, .int mwy, .int mmk, .int mwt, .ref m1, .ref m2, .ref m3, .ref m4, .int mun, .ref m5, .ref m6, .int mln, .int mfi, .int mbe, .int mrs, .int mrw, .int mcl, .int mdo, .int mnu, .ref m7, .ref m8, .ref m9, .ref m10])), (m1, .inl (cI, 24, .inl mvl)), (m2, .inl (cI, 96, .inl mof)), (m3, .inl (cI, 168, .inl mw_44)), (m4, .inl (cF, 288, .inr (.inr (.inl mf_44)))), (m5, .inl (cZ, 2, .inl mik)), (m6, .inl (cI, 200, .inl mtx)), (m7, .inl (cI, 56, .inl mwd)), (m8, .inl (cI, 3, .inl msz)), (m9, .inl (cI, 3, .inl mso)), (m10, .inl (cI, 24, .inl mpl))] H → va_D A [(ma, .inr (6, [.int mst, .int mwy, .int mmk, .int mwt, .ref m1, .ref m2, .ref m3, .ref m4, .int mun, .ref m5, .ref m6, .int mln, .int mfi, .int mbe, .int mrs, .int mrw, .int mcl, .int mdo, .int mnu, .ref m7, .ref m8, .ref m9, .ref m10])), (m1, .inl (cI, 24, .inl mvl)), (m2, .inl (cI, 96, .inl mof)), (m3, .inl (cI, 168, .inl mw_44)), (m4, .inl (cF, 288, .inr (.inr (.inl mf_44)))), (m5, .inl (cZ, 2, .inl mik)), (m6, .inl (cI, 200, .inl mtx)), (m7, .inl (cI, 56, .inl mwd)), (m8, .inl (cI, 3, .inl msz)), (m9, .inl (cI, 3, .inl mso)), (m10, .inl (cI, 24, .inl mpl))] → va_S A s.heap H locs → lv_has ls 2 [(1, .int x1_44), (0, .ref ma)] → (∀ (H : Heap) (locs : List Loc) (ls : Array Slot), va_P D vwCl [(ma, .inr (6, [.int mst, .int mwy, .int mmk, .int mwt, .ref m1, .ref m2, .ref m3, .ref m4, .int mun, .ref m5, .ref m6, .int mln, .int mfi, .int mbe, .int mrs, .int mrw, .int mcl, .int mdo, .int mnu, .ref m7, .ref m8, .ref m9, .ref m10])), (m1, .inl (cI, 24, .inl mvl)), (m2, .inl (cI, 96, .inl mof)), (m3, .inl (cI, 168, .inl oo.2.1)), (m4, .inl (cF, 288, .inr (.inr (.inl oo.2.2)))), (m5, .inl (cZ, 2, .inl mik)), (m6, .inl (cI, 200, .inl mtx)), (m7, .inl (cI, 56, .inl mwd)), (m8, .inl (cI, 3, .inl msz)), (m9, .inl (cI, 3, .inl mso)), (m10, .inl (cI, 24, .inl mpl))] H → va_D A [(ma, .inr (6, [.int mst, .int mwy, .int mmk, .int mwt, .ref m1, .ref m2, .ref m3, .ref m4, .int mun, .ref m5, .ref m6, .int mln, .int mfi, .int mbe, .int mrs, .int mrw, .int mcl, .int mdo, .int mnu, .ref m7, .ref m8, .ref m9, .ref m10])), (m1, .inl (cI, 24, .inl mvl)), (m2, .inl (cI, 96, .inl mof)), (m3, .inl (cI, 168, .inl oo.2.1)), (m4, .inl (cF, 288, .inr (.inr (.inl oo.2.2)))), (m5, .inl (cZ, 2, .inl mik)), (m6, .inl (cI, 200, .inl mtx)), (m7, .inl (cI, 56, .inl mwd)), (m8, .inl (cI, 3, .inl msz)), (m9, .inl (cI, 3, .inl mso)), (m10, .inl (cI, 24, .inl mpl))] → va_S A s.heap H locs → lv_has ls 2 [(1, .int oo.1), (0, .ref ma)] → W p l e { frames := 0, cells := 0, slots := 0, locals := 0 } s m args below meth c H locs 0 0 Q (F0 m 76 ls [])) → W p l e { frames := 0, cells := 0, slots := 0, locals := 0 } s m args below meth c H locs 0 0 Q (F0 m 44 ls []) := by
    intro n
    induction n with
    | zero => intro x1_44 mw_44 mf_44 oo hf; exact absurd hf (by simp [f_X6_starts_L44])
    | succ n ih =>
      intro x1_44 mw_44 mf_44 oo hf H locs ls hP hD hS hl kk
      rw [f_X6_starts_L44] at hf
      refine lv_iload_n hx hb dX6_starts_44 rfl (lv_at hl 0 rfl) ?_
      refine lv_iconst (v := 2) hx hb dX6_starts_45 (by decide) ?_
      refine lv_icmp_ge (tgt := 76) hx hb dX6_starts_46 (by decide) (fun c10 => ?_) (fun c10 => ?_)
      · have hf := if_p c10 hf
        have h1 := Option.some.inj hf
        subst h1
        exact kk H locs ls hP hD hS (lv_sub hl [0, 1] rfl)
      · have hf := if_n c10 hf
        refine lv_aload_n hx hb dX6_starts_49 rfl (lv_at hl 1 rfl) ?_
        refine va_get (D := D) (ci := 6) (v := .ref m3) (C := RX6) (T := TX6) (N := 23) hx hb hts w0 hown hK hP 0 rfl rfl 6 (by decide) w1 (fun _ h9 => h9) rfl dX6_starts_50 ?_
        refine lv_iconst (v := 5) hx hb dX6_starts_53 (by decide) ?_
        refine lv_iload_n hx hb dX6_starts_54 rfl (lv_at hl 0 rfl) ?_
        refine lv_imul hx hb dX6_starts_55 ?_
        refine lv_iconst (v := 4) hx hb dX6_starts_56 (by decide) ?_
        refine lv_iadd hx hb dX6_starts_57 ?_
        refine lv_iconst (v := (-1)) hx hb dX6_starts_58 (by decide) ?_
        obtain ⟨g11, hf⟩ := gd_inv hf
        refine va_iast hx hb hK hP hD hS 3 2 rfl rfl g11 dX6_starts_59 (fun H locs hP hD hS => ?_)
        have hP : va_P D vwCl [(ma, .inr (6, [.int mst, .int mwy, .int mmk, .int mwt, .ref m1, .ref m2, .ref m3, .ref m4, .int mun, .ref m5, .ref m6, .int mln, .int mfi, .int mbe, .int mrs, .int mrw, .int mcl, .int mdo, .int mnu, .ref m7, .ref m8, .ref m9, .ref m10])), (m1, .inl (cI, 24, .inl mvl)), (m2, .inl (cI, 96, .inl mof)), (m3, .inl (cI, 168, .inl (upd mw_44 ((((5 : Int32) * x1_44) + 4).toNatClampNeg) (-1)))), (m4, .inl (cF, 288, .inr (.inr (.inl mf_44)))), (m5, .inl (cZ, 2, .inl mik)), (m6, .inl (cI, 200, .inl mtx)), (m7, .inl (cI, 56, .inl mwd)), (m8, .inl (cI, 3, .inl msz)), (m9, .inl (cI, 3, .inl mso)), (m10, .inl (cI, 24, .inl mpl))] H := hP
        have hD : va_D A [(ma, .inr (6, [.int mst, .int mwy, .int mmk, .int mwt, .ref m1, .ref m2, .ref m3, .ref m4, .int mun, .ref m5, .ref m6, .int mln, .int mfi, .int mbe, .int mrs, .int mrw, .int mcl, .int mdo, .int mnu, .ref m7, .ref m8, .ref m9, .ref m10])), (m1, .inl (cI, 24, .inl mvl)), (m2, .inl (cI, 96, .inl mof)), (m3, .inl (cI, 168, .inl (upd mw_44 ((((5 : Int32) * x1_44) + 4).toNatClampNeg) (-1)))), (m4, .inl (cF, 288, .inr (.inr (.inl mf_44)))), (m5, .inl (cZ, 2, .inl mik)), (m6, .inl (cI, 200, .inl mtx)), (m7, .inl (cI, 56, .inl mwd)), (m8, .inl (cI, 3, .inl msz)), (m9, .inl (cI, 3, .inl mso)), (m10, .inl (cI, 24, .inl mpl))] := hD
        refine lv_aload_n hx hb dX6_starts_60 rfl (lv_at hl 1 rfl) ?_
        refine va_get (D := D) (ci := 6) (v := .ref m4) (C := RX6) (T := TX6) (N := 23) hx hb hts w0 hown hK hP 0 rfl rfl 7 (by decide) w2 (fun _ h9 => h9) rfl dX6_starts_61 ?_
        refine lv_bipush (v := 6) hx hb dX6_starts_64 (by decide) ?_
        refine lv_iload_n hx hb dX6_starts_66 rfl (lv_at hl 0 rfl) ?_
        refine lv_imul hx hb dX6_starts_67 ?_
        refine lv_fconst1 hx hb dX6_starts_68 ?_
        obtain ⟨g12, hf⟩ := gd_inv hf
        refine va_fast hx hb hK hP hD hS 4 1 rfl rfl g12 dX6_starts_69 (fun H locs hP hD hS => ?_)
        have hP : va_P D vwCl [(ma, .inr (6, [.int mst, .int mwy, .int mmk, .int mwt, .ref m1, .ref m2, .ref m3, .ref m4, .int mun, .ref m5, .ref m6, .int mln, .int mfi, .int mbe, .int mrs, .int mrw, .int mcl, .int mdo, .int mnu, .ref m7, .ref m8, .ref m9, .ref m10])), (m1, .inl (cI, 24, .inl mvl)), (m2, .inl (cI, 96, .inl mof)), (m3, .inl (cI, 168, .inl (upd mw_44 ((((5 : Int32) * x1_44) + 4).toNatClampNeg) (-1)))), (m4, .inl (cF, 288, .inr (.inr (.inl (vf_upd mf_44 (((6 : Int32) * x1_44).toNatClampNeg) FP.fconst1))))), (m5, .inl (cZ, 2, .inl mik)), (m6, .inl (cI, 200, .inl mtx)), (m7, .inl (cI, 56, .inl mwd)), (m8, .inl (cI, 3, .inl msz)), (m9, .inl (cI, 3, .inl mso)), (m10, .inl (cI, 24, .inl mpl))] H := hP
        have hD : va_D A [(ma, .inr (6, [.int mst, .int mwy, .int mmk, .int mwt, .ref m1, .ref m2, .ref m3, .ref m4, .int mun, .ref m5, .ref m6, .int mln, .int mfi, .int mbe, .int mrs, .int mrw, .int mcl, .int mdo, .int mnu, .ref m7, .ref m8, .ref m9, .ref m10])), (m1, .inl (cI, 24, .inl mvl)), (m2, .inl (cI, 96, .inl mof)), (m3, .inl (cI, 168, .inl (upd mw_44 ((((5 : Int32) * x1_44) + 4).toNatClampNeg) (-1)))), (m4, .inl (cF, 288, .inr (.inr (.inl (vf_upd mf_44 (((6 : Int32) * x1_44).toNatClampNeg) FP.fconst1))))), (m5, .inl (cZ, 2, .inl mik)), (m6, .inl (cI, 200, .inl mtx)), (m7, .inl (cI, 56, .inl mwd)), (m8, .inl (cI, 3, .inl msz)), (m9, .inl (cI, 3, .inl mso)), (m10, .inl (cI, 24, .inl mpl))] := hD
        refine lv_iinc (v := x1_44 + 1) (lv' := [(1, .int (x1_44 + 1)), (0, .ref ma)]) hx hb dX6_starts_70 hl (k := 0) rfl rfl (by decide) rfl (fun ls hl => ?_)
        refine lv_goto (tgt := 44) hx hb dX6_starts_73 (by decide) ?_
        exact ih (x1_44 + 1) (upd mw_44 ((((5 : Int32) * x1_44) + 4).toNatClampNeg) (-1)) (vf_upd mf_44 (((6 : Int32) * x1_44).toNatClampNeg) FP.fconst1) oo hf H locs ls hP hD hS (lv_sub hl [0, 1] rfl) kk
  have L83 : ∀ (n : Nat) (x1_83 : Int32) (mik_83 : Nat → Int32) (mw_83 : Nat → Int32) (mf_83 : Nat → UInt32) (oo : Int32 × (Nat → Int32) × (Nat → UInt32) × (Nat → Int32)), f_X6_starts_L83 n x1_83 mik_83 mw_83 mf_83 = some oo → ∀ (H : Heap) (locs : List Loc) (ls : Array Slot), va_P D vwCl [(ma, .inr (6, [.int mst, .int mwy, .int mmk, .int mwt, .ref m1, .ref m2, .ref m3, .ref m4, .int 0, .ref m5, .ref m6, .int mln, .int mfi, .int mbe, .int mrs, .int mrw, .int mcl, .int mdo, .int mnu, .ref m7, .ref m8, .ref m9, .ref m10])), (m1, .inl (cI, 24, .inl mvl)), (m2, .inl (cI, 96, .inl mof)), (m3, .inl (cI, 168, .inl mw_83)), (m4, .inl (cF, 288, .inr (.inr (.inl mf_83)))), (m5, .inl (cZ, 2, .inl mik_83)), (m6, .inl (cI, 200, .inl mtx)), (m7, .inl (cI, 56, .inl mwd)), (m8, .inl (cI, 3, .inl msz)), (m9, .inl (cI, 3, .inl mso)), (m10, .inl (cI, 24, .inl mpl))] H → va_D A [(ma, .inr (6, [.int mst, .int mwy, .int mmk, .int mwt, .ref m1, .ref m2, .ref m3, .ref m4, .int 0, .ref m5, .ref m6, .int mln, .int mfi, .int mbe, .int mrs, .int mrw, .int mcl, .int mdo, .int mnu, .ref m7, .ref m8, .ref m9, .ref m10])), (m1, .inl (cI, 24, .inl mvl)), (m2, .inl (cI, 96, .inl mof)), (m3, .inl (cI, 168, .inl mw_83)), (m4, .inl (cF, 288, .inr (.inr (.inl mf_83)))), (m5, .inl (cZ, 2, .inl mik_83)), (m6, .inl (cI, 200, .inl mtx)), (m7, .inl (cI, 56, .inl mwd)), (m8, .inl (cI, 3, .inl msz)), (m9, .inl (cI, 3, .inl mso)), (m10, .inl (cI, 24, .inl mpl))] → va_S A s.heap H locs → lv_has ls 2 [(1, .int x1_83), (0, .ref ma)] → (∀ (H : Heap) (locs : List Loc) (ls : Array Slot), va_P D vwCl [(ma, .inr (6, [.int mst, .int mwy, .int mmk, .int mwt, .ref m1, .ref m2, .ref m3, .ref m4, .int 0, .ref m5, .ref m6, .int mln, .int mfi, .int mbe, .int mrs, .int mrw, .int mcl, .int mdo, .int mnu, .ref m7, .ref m8, .ref m9, .ref m10])), (m1, .inl (cI, 24, .inl mvl)), (m2, .inl (cI, 96, .inl mof)), (m3, .inl (cI, 168, .inl oo.2.1)), (m4, .inl (cF, 288, .inr (.inr (.inl oo.2.2.1)))), (m5, .inl (cZ, 2, .inl oo.2.2.2)), (m6, .inl (cI, 200, .inl mtx)), (m7, .inl (cI, 56, .inl mwd)), (m8, .inl (cI, 3, .inl msz)), (m9, .inl (cI, 3, .inl mso)), (m10, .inl (cI, 24, .inl mpl))] H → va_D A [(ma, .inr (6, [.int mst, .int mwy, .int mmk, .int mwt, .ref m1, .ref m2, .ref m3, .ref m4, .int 0, .ref m5, .ref m6, .int mln, .int mfi, .int mbe, .int mrs, .int mrw, .int mcl, .int mdo, .int mnu, .ref m7, .ref m8, .ref m9, .ref m10])), (m1, .inl (cI, 24, .inl mvl)), (m2, .inl (cI, 96, .inl mof)), (m3, .inl (cI, 168, .inl oo.2.1)), (m4, .inl (cF, 288, .inr (.inr (.inl oo.2.2.1)))), (m5, .inl (cZ, 2, .inl oo.2.2.2)), (m6, .inl (cI, 200, .inl mtx)), (m7, .inl (cI, 56, .inl mwd)), (m8, .inl (cI, 3, .inl msz)), (m9, .inl (cI, 3, .inl mso)), (m10, .inl (cI, 24, .inl mpl))] → va_S A s.heap H locs → lv_has ls 2 [(1, .int oo.1), (0, .ref ma)] → W p l e { frames := 0, cells := 0, slots := 0, locals := 0 } s m args below meth c H locs 0 0 Q (F0 m 101 ls [])) → W p l e { frames := 0, cells := 0, slots := 0, locals := 0 } s m args below meth c H locs 0 0 Q (F0 m 83 ls []) := by
    intro n
    induction n with
    | zero => intro x1_83 mik_83 mw_83 mf_83 oo hf; exact absurd hf (by simp [f_X6_starts_L83])
    | succ n ih =>
      intro x1_83 mik_83 mw_83 mf_83 oo hf H locs ls hP hD hS hl kk
      rw [f_X6_starts_L83] at hf
      refine lv_iload_n hx hb dX6_starts_83 rfl (lv_at hl 0 rfl) ?_
      refine lv_iconst (v := 2) hx hb dX6_starts_84 (by decide) ?_
      refine lv_icmp_ge (tgt := 101) hx hb dX6_starts_85 (by decide) (fun c16 => ?_) (fun c16 => ?_)
      · have hf := if_p c16 hf
        have h1 := Option.some.inj hf
        subst h1
        exact kk H locs ls hP hD hS (lv_sub hl [0, 1] rfl)
      · have hf := if_n c16 hf
        refine lv_aload_n hx hb dX6_starts_88 rfl (lv_at hl 1 rfl) ?_
        refine va_get (D := D) (ci := 6) (v := .ref m5) (C := RX6) (T := TX6) (N := 23) hx hb hts w0 hown hK hP 0 rfl rfl 9 (by decide) w4 (fun _ h9 => h9) rfl dX6_starts_89 ?_
        refine lv_iload_n hx hb dX6_starts_92 rfl (lv_at hl 0 rfl) ?_
        refine lv_iconst (v := 0) hx hb dX6_starts_93 (by decide) ?_
        obtain ⟨g17, hf⟩ := gd_inv hf
        refine va_zast hx hb hK hP hD hS 5 3 rfl rfl g17 dX6_starts_94 (fun H locs hP hD hS => ?_)
        have hP : va_P D vwCl [(ma, .inr (6, [.int mst, .int mwy, .int mmk, .int mwt, .ref m1, .ref m2, .ref m3, .ref m4, .int 0, .ref m5, .ref m6, .int mln, .int mfi, .int mbe, .int mrs, .int mrw, .int mcl, .int mdo, .int mnu, .ref m7, .ref m8, .ref m9, .ref m10])), (m1, .inl (cI, 24, .inl mvl)), (m2, .inl (cI, 96, .inl mof)), (m3, .inl (cI, 168, .inl mw_83)), (m4, .inl (cF, 288, .inr (.inr (.inl mf_83)))), (m5, .inl (cZ, 2, .inl (upd mik_83 x1_83.toNatClampNeg (vp_nar .boolean 0)))), (m6, .inl (cI, 200, .inl mtx)), (m7, .inl (cI, 56, .inl mwd)), (m8, .inl (cI, 3, .inl msz)), (m9, .inl (cI, 3, .inl mso)), (m10, .inl (cI, 24, .inl mpl))] H := hP
        have hD : va_D A [(ma, .inr (6, [.int mst, .int mwy, .int mmk, .int mwt, .ref m1, .ref m2, .ref m3, .ref m4, .int 0, .ref m5, .ref m6, .int mln, .int mfi, .int mbe, .int mrs, .int mrw, .int mcl, .int mdo, .int mnu, .ref m7, .ref m8, .ref m9, .ref m10])), (m1, .inl (cI, 24, .inl mvl)), (m2, .inl (cI, 96, .inl mof)), (m3, .inl (cI, 168, .inl mw_83)), (m4, .inl (cF, 288, .inr (.inr (.inl mf_83)))), (m5, .inl (cZ, 2, .inl (upd mik_83 x1_83.toNatClampNeg (vp_nar .boolean 0)))), (m6, .inl (cI, 200, .inl mtx)), (m7, .inl (cI, 56, .inl mwd)), (m8, .inl (cI, 3, .inl msz)), (m9, .inl (cI, 3, .inl mso)), (m10, .inl (cI, 24, .inl mpl))] := hD
        refine lv_iinc (v := x1_83 + 1) (lv' := [(1, .int (x1_83 + 1)), (0, .ref ma)]) hx hb dX6_starts_95 hl (k := 0) rfl rfl (by decide) rfl (fun ls hl => ?_)
        refine lv_goto (tgt := 83) hx hb dX6_starts_98 (by decide) ?_
        exact ih (x1_83 + 1) (upd mik_83 x1_83.toNatClampNeg (vp_nar .boolean 0)) mw_83 mf_83 oo hf H locs ls hP hD hS (lv_sub hl [0, 1] rfl) kk
  have L103 : ∀ (n : Nat) (x1_103 : Int32) (msz_103 : Nat → Int32) (mw_103 : Nat → Int32) (mf_103 : Nat → UInt32) (mik_103 : Nat → Int32) (oo : Int32 × (Nat → Int32) × (Nat → UInt32) × (Nat → Int32) × (Nat → Int32)), f_X6_starts_L103 n x1_103 msz_103 mw_103 mf_103 mik_103 = some oo → ∀ (H : Heap) (locs : List Loc) (ls : Array Slot), va_P D vwCl [(ma, .inr (6, [.int mst, .int mwy, .int mmk, .int mwt, .ref m1, .ref m2, .ref m3, .ref m4, .int 0, .ref m5, .ref m6, .int mln, .int mfi, .int mbe, .int mrs, .int mrw, .int mcl, .int mdo, .int mnu, .ref m7, .ref m8, .ref m9, .ref m10])), (m1, .inl (cI, 24, .inl mvl)), (m2, .inl (cI, 96, .inl mof)), (m3, .inl (cI, 168, .inl mw_103)), (m4, .inl (cF, 288, .inr (.inr (.inl mf_103)))), (m5, .inl (cZ, 2, .inl mik_103)), (m6, .inl (cI, 200, .inl mtx)), (m7, .inl (cI, 56, .inl mwd)), (m8, .inl (cI, 3, .inl msz_103)), (m9, .inl (cI, 3, .inl mso)), (m10, .inl (cI, 24, .inl mpl))] H → va_D A [(ma, .inr (6, [.int mst, .int mwy, .int mmk, .int mwt, .ref m1, .ref m2, .ref m3, .ref m4, .int 0, .ref m5, .ref m6, .int mln, .int mfi, .int mbe, .int mrs, .int mrw, .int mcl, .int mdo, .int mnu, .ref m7, .ref m8, .ref m9, .ref m10])), (m1, .inl (cI, 24, .inl mvl)), (m2, .inl (cI, 96, .inl mof)), (m3, .inl (cI, 168, .inl mw_103)), (m4, .inl (cF, 288, .inr (.inr (.inl mf_103)))), (m5, .inl (cZ, 2, .inl mik_103)), (m6, .inl (cI, 200, .inl mtx)), (m7, .inl (cI, 56, .inl mwd)), (m8, .inl (cI, 3, .inl msz_103)), (m9, .inl (cI, 3, .inl mso)), (m10, .inl (cI, 24, .inl mpl))] → va_S A s.heap H locs → lv_has ls 2 [(1, .int x1_103), (0, .ref ma)] → (∀ (H : Heap) (locs : List Loc) (ls : Array Slot), va_P D vwCl [(ma, .inr (6, [.int mst, .int mwy, .int mmk, .int mwt, .ref m1, .ref m2, .ref m3, .ref m4, .int 0, .ref m5, .ref m6, .int mln, .int mfi, .int mbe, .int mrs, .int mrw, .int mcl, .int mdo, .int mnu, .ref m7, .ref m8, .ref m9, .ref m10])), (m1, .inl (cI, 24, .inl mvl)), (m2, .inl (cI, 96, .inl mof)), (m3, .inl (cI, 168, .inl oo.2.1)), (m4, .inl (cF, 288, .inr (.inr (.inl oo.2.2.1)))), (m5, .inl (cZ, 2, .inl oo.2.2.2.1)), (m6, .inl (cI, 200, .inl mtx)), (m7, .inl (cI, 56, .inl mwd)), (m8, .inl (cI, 3, .inl oo.2.2.2.2)), (m9, .inl (cI, 3, .inl mso)), (m10, .inl (cI, 24, .inl mpl))] H → va_D A [(ma, .inr (6, [.int mst, .int mwy, .int mmk, .int mwt, .ref m1, .ref m2, .ref m3, .ref m4, .int 0, .ref m5, .ref m6, .int mln, .int mfi, .int mbe, .int mrs, .int mrw, .int mcl, .int mdo, .int mnu, .ref m7, .ref m8, .ref m9, .ref m10])), (m1, .inl (cI, 24, .inl mvl)), (m2, .inl (cI, 96, .inl mof)), (m3, .inl (cI, 168, .inl oo.2.1)), (m4, .inl (cF, 288, .inr (.inr (.inl oo.2.2.1)))), (m5, .inl (cZ, 2, .inl oo.2.2.2.1)), (m6, .inl (cI, 200, .inl mtx)), (m7, .inl (cI, 56, .inl mwd)), (m8, .inl (cI, 3, .inl oo.2.2.2.2)), (m9, .inl (cI, 3, .inl mso)), (m10, .inl (cI, 24, .inl mpl))] → va_S A s.heap H locs → lv_has ls 2 [(1, .int oo.1), (0, .ref ma)] → W p l e { frames := 0, cells := 0, slots := 0, locals := 0 } s m args below meth c H locs 0 0 Q (F0 m 121 ls [])) → W p l e { frames := 0, cells := 0, slots := 0, locals := 0 } s m args below meth c H locs 0 0 Q (F0 m 103 ls []) := by
    intro n
    induction n with
    | zero => intro x1_103 msz_103 mw_103 mf_103 mik_103 oo hf; exact absurd hf (by simp [f_X6_starts_L103])
    | succ n ih =>
      intro x1_103 msz_103 mw_103 mf_103 mik_103 oo hf H locs ls hP hD hS hl kk
      rw [f_X6_starts_L103] at hf
      refine lv_iload_n hx hb dX6_starts_103 rfl (lv_at hl 0 rfl) ?_
      refine lv_iconst (v := 3) hx hb dX6_starts_104 (by decide) ?_
      refine lv_icmp_ge (tgt := 121) hx hb dX6_starts_105 (by decide) (fun c22 => ?_) (fun c22 => ?_)
      · have hf := if_p c22 hf
        have h1 := Option.some.inj hf
        subst h1
        exact kk H locs ls hP hD hS (lv_sub hl [0, 1] rfl)
      · have hf := if_n c22 hf
        refine lv_aload_n hx hb dX6_starts_108 rfl (lv_at hl 1 rfl) ?_
        refine va_get (D := D) (ci := 6) (v := .ref m8) (C := RX6) (T := TX6) (N := 23) hx hb hts w0 hown hK hP 0 rfl rfl 20 (by decide) w5 (fun _ h9 => h9) rfl dX6_starts_109 ?_
        refine lv_iload_n hx hb dX6_starts_112 rfl (lv_at hl 0 rfl) ?_
        refine lv_iconst (v := (-1)) hx hb dX6_starts_113 (by decide) ?_
        obtain ⟨g23, hf⟩ := gd_inv hf
        refine va_iast hx hb hK hP hD hS 8 2 rfl rfl g23 dX6_starts_114 (fun H locs hP hD hS => ?_)
        have hP : va_P D vwCl [(ma, .inr (6, [.int mst, .int mwy, .int mmk, .int mwt, .ref m1, .ref m2, .ref m3, .ref m4, .int 0, .ref m5, .ref m6, .int mln, .int mfi, .int mbe, .int mrs, .int mrw, .int mcl, .int mdo, .int mnu, .ref m7, .ref m8, .ref m9, .ref m10])), (m1, .inl (cI, 24, .inl mvl)), (m2, .inl (cI, 96, .inl mof)), (m3, .inl (cI, 168, .inl mw_103)), (m4, .inl (cF, 288, .inr (.inr (.inl mf_103)))), (m5, .inl (cZ, 2, .inl mik_103)), (m6, .inl (cI, 200, .inl mtx)), (m7, .inl (cI, 56, .inl mwd)), (m8, .inl (cI, 3, .inl (upd msz_103 x1_103.toNatClampNeg (-1)))), (m9, .inl (cI, 3, .inl mso)), (m10, .inl (cI, 24, .inl mpl))] H := hP
        have hD : va_D A [(ma, .inr (6, [.int mst, .int mwy, .int mmk, .int mwt, .ref m1, .ref m2, .ref m3, .ref m4, .int 0, .ref m5, .ref m6, .int mln, .int mfi, .int mbe, .int mrs, .int mrw, .int mcl, .int mdo, .int mnu, .ref m7, .ref m8, .ref m9, .ref m10])), (m1, .inl (cI, 24, .inl mvl)), (m2, .inl (cI, 96, .inl mof)), (m3, .inl (cI, 168, .inl mw_103)), (m4, .inl (cF, 288, .inr (.inr (.inl mf_103)))), (m5, .inl (cZ, 2, .inl mik_103)), (m6, .inl (cI, 200, .inl mtx)), (m7, .inl (cI, 56, .inl mwd)), (m8, .inl (cI, 3, .inl (upd msz_103 x1_103.toNatClampNeg (-1)))), (m9, .inl (cI, 3, .inl mso)), (m10, .inl (cI, 24, .inl mpl))] := hD
        refine lv_iinc (v := x1_103 + 1) (lv' := [(1, .int (x1_103 + 1)), (0, .ref ma)]) hx hb dX6_starts_115 hl (k := 0) rfl rfl (by decide) rfl (fun ls hl => ?_)
        refine lv_goto (tgt := 103) hx hb dX6_starts_118 (by decide) ?_
        exact ih (x1_103 + 1) (upd msz_103 x1_103.toNatClampNeg (-1)) mw_103 mf_103 mik_103 oo hf H locs ls hP hD hS (lv_sub hl [0, 1] rfl) kk
  unfold f_X6_starts at hf
  refine lv_iconst (v := 0) hx hb dX6_starts_0 (by decide) ?_
  refine lv_istore_n (lv' := [(1, .int 0), (0, .ref ma)]) hx hb dX6_starts_1 rfl hl (by decide) rfl (fun ls hl => ?_)
  obtain ⟨⟨q3, q4⟩, hq33, hf⟩ := bd_inv hf
  refine L2 1000 0 mw (q3, q4) hq33 H locs ls hP hD hS (lv_sub hl [0, 1] rfl) (fun H locs ls hP hD hS hl => ?_)
  have hP : va_P D vwCl [(ma, .inr (6, [.int mst, .int mwy, .int mmk, .int mwt, .ref m1, .ref m2, .ref m3, .ref m4, .int mun, .ref m5, .ref m6, .int mln, .int mfi, .int mbe, .int mrs, .int mrw, .int mcl, .int mdo, .int mnu, .ref m7, .ref m8, .ref m9, .ref m10])), (m1, .inl (cI, 24, .inl mvl)), (m2, .inl (cI, 96, .inl mof)), (m3, .inl (cI, 168, .inl q4)), (m4, .inl (cF, 288, .inr (.inr (.inl mf)))), (m5, .inl (cZ, 2, .inl mik)), (m6, .inl (cI, 200, .inl mtx)), (m7, .inl (cI, 56, .inl mwd)), (m8, .inl (cI, 3, .inl msz)), (m9, .inl (cI, 3, .inl mso)), (m10, .inl (cI, 24, .inl mpl))] H := hP
  have hD : va_D A [(ma, .inr (6, [.int mst, .int mwy, .int mmk, .int mwt, .ref m1, .ref m2, .ref m3, .ref m4, .int mun, .ref m5, .ref m6, .int mln, .int mfi, .int mbe, .int mrs, .int mrw, .int mcl, .int mdo, .int mnu, .ref m7, .ref m8, .ref m9, .ref m10])), (m1, .inl (cI, 24, .inl mvl)), (m2, .inl (cI, 96, .inl mof)), (m3, .inl (cI, 168, .inl q4)), (m4, .inl (cF, 288, .inr (.inr (.inl mf)))), (m5, .inl (cZ, 2, .inl mik)), (m6, .inl (cI, 200, .inl mtx)), (m7, .inl (cI, 56, .inl mwd)), (m8, .inl (cI, 3, .inl msz)), (m9, .inl (cI, 3, .inl mso)), (m10, .inl (cI, 24, .inl mpl))] := hD
  have hl : lv_has ls 2 [(1, .int q3), (0, .ref ma)] := hl
  refine lv_iconst (v := 0) hx hb dX6_starts_21 (by decide) ?_
  refine lv_istore_n (lv' := [(1, .int 0), (0, .ref ma)]) hx hb dX6_starts_22 rfl hl (by decide) rfl (fun ls hl => ?_)
  obtain ⟨⟨q7, q8, q9⟩, hq32, hf⟩ := bd_inv hf
  refine L23 1000 0 mf q4 (q7, q8, q9) hq32 H locs ls hP hD hS (lv_sub hl [0, 1] rfl) (fun H locs ls hP hD hS hl => ?_)
  have hP : va_P D vwCl [(ma, .inr (6, [.int mst, .int mwy, .int mmk, .int mwt, .ref m1, .ref m2, .ref m3, .ref m4, .int mun, .ref m5, .ref m6, .int mln, .int mfi, .int mbe, .int mrs, .int mrw, .int mcl, .int mdo, .int mnu, .ref m7, .ref m8, .ref m9, .ref m10])), (m1, .inl (cI, 24, .inl mvl)), (m2, .inl (cI, 96, .inl mof)), (m3, .inl (cI, 168, .inl q8)), (m4, .inl (cF, 288, .inr (.inr (.inl q9)))), (m5, .inl (cZ, 2, .inl mik)), (m6, .inl (cI, 200, .inl mtx)), (m7, .inl (cI, 56, .inl mwd)), (m8, .inl (cI, 3, .inl msz)), (m9, .inl (cI, 3, .inl mso)), (m10, .inl (cI, 24, .inl mpl))] H := hP
  have hD : va_D A [(ma, .inr (6, [.int mst, .int mwy, .int mmk, .int mwt, .ref m1, .ref m2, .ref m3, .ref m4, .int mun, .ref m5, .ref m6, .int mln, .int mfi, .int mbe, .int mrs, .int mrw, .int mcl, .int mdo, .int mnu, .ref m7, .ref m8, .ref m9, .ref m10])), (m1, .inl (cI, 24, .inl mvl)), (m2, .inl (cI, 96, .inl mof)), (m3, .inl (cI, 168, .inl q8)), (m4, .inl (cF, 288, .inr (.inr (.inl q9)))), (m5, .inl (cZ, 2, .inl mik)), (m6, .inl (cI, 200, .inl mtx)), (m7, .inl (cI, 56, .inl mwd)), (m8, .inl (cI, 3, .inl msz)), (m9, .inl (cI, 3, .inl mso)), (m10, .inl (cI, 24, .inl mpl))] := hD
  have hl : lv_has ls 2 [(1, .int q7), (0, .ref ma)] := hl
  refine lv_iconst (v := 0) hx hb dX6_starts_42 (by decide) ?_
  refine lv_istore_n (lv' := [(1, .int 0), (0, .ref ma)]) hx hb dX6_starts_43 rfl hl (by decide) rfl (fun ls hl => ?_)
  obtain ⟨⟨q13, q14, q15⟩, hq31, hf⟩ := bd_inv hf
  refine L44 1000 0 q8 q9 (q13, q14, q15) hq31 H locs ls hP hD hS (lv_sub hl [0, 1] rfl) (fun H locs ls hP hD hS hl => ?_)
  have hP : va_P D vwCl [(ma, .inr (6, [.int mst, .int mwy, .int mmk, .int mwt, .ref m1, .ref m2, .ref m3, .ref m4, .int mun, .ref m5, .ref m6, .int mln, .int mfi, .int mbe, .int mrs, .int mrw, .int mcl, .int mdo, .int mnu, .ref m7, .ref m8, .ref m9, .ref m10])), (m1, .inl (cI, 24, .inl mvl)), (m2, .inl (cI, 96, .inl mof)), (m3, .inl (cI, 168, .inl q14)), (m4, .inl (cF, 288, .inr (.inr (.inl q15)))), (m5, .inl (cZ, 2, .inl mik)), (m6, .inl (cI, 200, .inl mtx)), (m7, .inl (cI, 56, .inl mwd)), (m8, .inl (cI, 3, .inl msz)), (m9, .inl (cI, 3, .inl mso)), (m10, .inl (cI, 24, .inl mpl))] H := hP
  have hD : va_D A [(ma, .inr (6, [.int mst, .int mwy, .int mmk, .int mwt, .ref m1, .ref m2, .ref m3, .ref m4, .int mun, .ref m5, .ref m6, .int mln, .int mfi, .int mbe, .int mrs, .int mrw, .int mcl, .int mdo, .int mnu, .ref m7, .ref m8, .ref m9, .ref m10])), (m1, .inl (cI, 24, .inl mvl)), (m2, .inl (cI, 96, .inl mof)), (m3, .inl (cI, 168, .inl q14)), (m4, .inl (cF, 288, .inr (.inr (.inl q15)))), (m5, .inl (cZ, 2, .inl mik)), (m6, .inl (cI, 200, .inl mtx)), (m7, .inl (cI, 56, .inl mwd)), (m8, .inl (cI, 3, .inl msz)), (m9, .inl (cI, 3, .inl mso)), (m10, .inl (cI, 24, .inl mpl))] := hD
  have hl : lv_has ls 2 [(1, .int q13), (0, .ref ma)] := hl
  refine lv_aload_n hx hb dX6_starts_76 rfl (lv_at hl 1 rfl) ?_
  refine lv_iconst (v := 0) hx hb dX6_starts_77 (by decide) ?_
  refine va_put (D := D) (ci := 6) (v := .int 0) (ty := .int) (C := RX6) (T := TX6) (N := 23) hx hb hts w0 tyX6 tyX6_ok nmX6 hown hK hP hD hS 0 rfl rfl 8 (by decide) w3 (fun _ h9 => h9) rfl (by decide +kernel) rfl rfl (Nat.le_of_ble_eq_true rfl) dX6_starts_78 (fun H locs hP hD hS => ?_)
  have hP : va_P D vwCl [(ma, .inr (6, [.int mst, .int mwy, .int mmk, .int mwt, .ref m1, .ref m2, .ref m3, .ref m4, .int 0, .ref m5, .ref m6, .int mln, .int mfi, .int mbe, .int mrs, .int mrw, .int mcl, .int mdo, .int mnu, .ref m7, .ref m8, .ref m9, .ref m10])), (m1, .inl (cI, 24, .inl mvl)), (m2, .inl (cI, 96, .inl mof)), (m3, .inl (cI, 168, .inl q14)), (m4, .inl (cF, 288, .inr (.inr (.inl q15)))), (m5, .inl (cZ, 2, .inl mik)), (m6, .inl (cI, 200, .inl mtx)), (m7, .inl (cI, 56, .inl mwd)), (m8, .inl (cI, 3, .inl msz)), (m9, .inl (cI, 3, .inl mso)), (m10, .inl (cI, 24, .inl mpl))] H := hP
  have hD : va_D A [(ma, .inr (6, [.int mst, .int mwy, .int mmk, .int mwt, .ref m1, .ref m2, .ref m3, .ref m4, .int 0, .ref m5, .ref m6, .int mln, .int mfi, .int mbe, .int mrs, .int mrw, .int mcl, .int mdo, .int mnu, .ref m7, .ref m8, .ref m9, .ref m10])), (m1, .inl (cI, 24, .inl mvl)), (m2, .inl (cI, 96, .inl mof)), (m3, .inl (cI, 168, .inl q14)), (m4, .inl (cF, 288, .inr (.inr (.inl q15)))), (m5, .inl (cZ, 2, .inl mik)), (m6, .inl (cI, 200, .inl mtx)), (m7, .inl (cI, 56, .inl mwd)), (m8, .inl (cI, 3, .inl msz)), (m9, .inl (cI, 3, .inl mso)), (m10, .inl (cI, 24, .inl mpl))] := hD
  refine lv_iconst (v := 0) hx hb dX6_starts_81 (by decide) ?_
  refine lv_istore_n (lv' := [(1, .int 0), (0, .ref ma)]) hx hb dX6_starts_82 rfl hl (by decide) rfl (fun ls hl => ?_)
  obtain ⟨⟨q18, q19, q20, q21⟩, hq30, hf⟩ := bd_inv hf
  refine L83 1000 0 mik q14 q15 (q18, q19, q20, q21) hq30 H locs ls hP hD hS (lv_sub hl [0, 1] rfl) (fun H locs ls hP hD hS hl => ?_)
  have hP : va_P D vwCl [(ma, .inr (6, [.int mst, .int mwy, .int mmk, .int mwt, .ref m1, .ref m2, .ref m3, .ref m4, .int 0, .ref m5, .ref m6, .int mln, .int mfi, .int mbe, .int mrs, .int mrw, .int mcl, .int mdo, .int mnu, .ref m7, .ref m8, .ref m9, .ref m10])), (m1, .inl (cI, 24, .inl mvl)), (m2, .inl (cI, 96, .inl mof)), (m3, .inl (cI, 168, .inl q19)), (m4, .inl (cF, 288, .inr (.inr (.inl q20)))), (m5, .inl (cZ, 2, .inl q21)), (m6, .inl (cI, 200, .inl mtx)), (m7, .inl (cI, 56, .inl mwd)), (m8, .inl (cI, 3, .inl msz)), (m9, .inl (cI, 3, .inl mso)), (m10, .inl (cI, 24, .inl mpl))] H := hP
  have hD : va_D A [(ma, .inr (6, [.int mst, .int mwy, .int mmk, .int mwt, .ref m1, .ref m2, .ref m3, .ref m4, .int 0, .ref m5, .ref m6, .int mln, .int mfi, .int mbe, .int mrs, .int mrw, .int mcl, .int mdo, .int mnu, .ref m7, .ref m8, .ref m9, .ref m10])), (m1, .inl (cI, 24, .inl mvl)), (m2, .inl (cI, 96, .inl mof)), (m3, .inl (cI, 168, .inl q19)), (m4, .inl (cF, 288, .inr (.inr (.inl q20)))), (m5, .inl (cZ, 2, .inl q21)), (m6, .inl (cI, 200, .inl mtx)), (m7, .inl (cI, 56, .inl mwd)), (m8, .inl (cI, 3, .inl msz)), (m9, .inl (cI, 3, .inl mso)), (m10, .inl (cI, 24, .inl mpl))] := hD
  have hl : lv_has ls 2 [(1, .int q18), (0, .ref ma)] := hl
  refine lv_iconst (v := 0) hx hb dX6_starts_101 (by decide) ?_
  refine lv_istore_n (lv' := [(1, .int 0), (0, .ref ma)]) hx hb dX6_starts_102 rfl hl (by decide) rfl (fun ls hl => ?_)
  obtain ⟨⟨q24, q25, q26, q27, q28⟩, hq29, hf⟩ := bd_inv hf
  refine L103 1000 0 msz q19 q20 q21 (q24, q25, q26, q27, q28) hq29 H locs ls hP hD hS (lv_sub hl [0, 1] rfl) (fun H locs ls hP hD hS hl => ?_)
  have hP : va_P D vwCl [(ma, .inr (6, [.int mst, .int mwy, .int mmk, .int mwt, .ref m1, .ref m2, .ref m3, .ref m4, .int 0, .ref m5, .ref m6, .int mln, .int mfi, .int mbe, .int mrs, .int mrw, .int mcl, .int mdo, .int mnu, .ref m7, .ref m8, .ref m9, .ref m10])), (m1, .inl (cI, 24, .inl mvl)), (m2, .inl (cI, 96, .inl mof)), (m3, .inl (cI, 168, .inl q25)), (m4, .inl (cF, 288, .inr (.inr (.inl q26)))), (m5, .inl (cZ, 2, .inl q27)), (m6, .inl (cI, 200, .inl mtx)), (m7, .inl (cI, 56, .inl mwd)), (m8, .inl (cI, 3, .inl q28)), (m9, .inl (cI, 3, .inl mso)), (m10, .inl (cI, 24, .inl mpl))] H := hP
  have hD : va_D A [(ma, .inr (6, [.int mst, .int mwy, .int mmk, .int mwt, .ref m1, .ref m2, .ref m3, .ref m4, .int 0, .ref m5, .ref m6, .int mln, .int mfi, .int mbe, .int mrs, .int mrw, .int mcl, .int mdo, .int mnu, .ref m7, .ref m8, .ref m9, .ref m10])), (m1, .inl (cI, 24, .inl mvl)), (m2, .inl (cI, 96, .inl mof)), (m3, .inl (cI, 168, .inl q25)), (m4, .inl (cF, 288, .inr (.inr (.inl q26)))), (m5, .inl (cZ, 2, .inl q27)), (m6, .inl (cI, 200, .inl mtx)), (m7, .inl (cI, 56, .inl mwd)), (m8, .inl (cI, 3, .inl q28)), (m9, .inl (cI, 3, .inl mso)), (m10, .inl (cI, 24, .inl mpl))] := hD
  have hl : lv_has ls 2 [(1, .int q24), (0, .ref ma)] := hl
  have h1 := Option.some.inj hf
  subst h1
  rw [hQ]
  exact W.vret hx hb hr (fun t ht hW => qEnd hP hS ht) hS.2.2 dX6_starts_121
set_option maxRecDepth 100000 in
set_option maxHeartbeats 4000000 in
theorem c_X6_write (l : Launch) (D : va_G) (B : Nat) (adK adV : Nat → Nat) (cC cF cI cZ cM cS : ClassId) (ma : Nat) (mst : Int32) (mwy : Int32) (mmk : Int32) (mwt : Int32) (m1 : Nat) (m2 : Nat) (m3 : Nat) (m4 : Nat) (mun : Int32) (m5 : Nat) (m6 : Nat) (mln : Int32) (mfi : Int32) (mbe : Int32) (mrs : Int32) (mrw : Int32) (mcl : Int32) (mdo : Int32) (mnu : Int32) (m7 : Nat) (m8 : Nat) (m9 : Nat) (m10 : Nat) (mvl : Nat → Int32) (mof : Nat → Int32) (mw : Nat → Int32) (mf : Nat → UInt32) (mik : Nat → Int32) (mtx : Nat → Int32) (mwd : Nat → Int32) (msz : Nat → Int32) (mso : Nat → Int32) (mpl : Nat → Int32) (ch : Int32) (zz : Int32 × (Nat → Int32) × Int32) (hf : f_X6_write mln mtx ch = some zz) : Ct l yX6_write wsX6_write { frames := 1, cells := 0, slots := 0, locals := 25 } D B adK adV (tysX cC cF cI cZ cM cS) [.ref ma, .int ch] [(ma, .inr (6, [.int mst, .int mwy, .int mmk, .int mwt, .ref m1, .ref m2, .ref m3, .ref m4, .int mun, .ref m5, .ref m6, .int mln, .int mfi, .int mbe, .int mrs, .int mrw, .int mcl, .int mdo, .int mnu, .ref m7, .ref m8, .ref m9, .ref m10])), (m1, .inl (cI, 24, .inl mvl)), (m2, .inl (cI, 96, .inl mof)), (m3, .inl (cI, 168, .inl mw)), (m4, .inl (cF, 288, .inr (.inr (.inl mf)))), (m5, .inl (cZ, 2, .inl mik)), (m6, .inl (cI, 200, .inl mtx)), (m7, .inl (cI, 56, .inl mwd)), (m8, .inl (cI, 3, .inl msz)), (m9, .inl (cI, 3, .inl mso)), (m10, .inl (cI, 24, .inl mpl))] [(ma, .inr (6, [.int mst, .int mwy, .int mmk, .int mwt, .ref m1, .ref m2, .ref m3, .ref m4, .int mun, .ref m5, .ref m6, .int zz.2.2, .int mfi, .int mbe, .int mrs, .int mrw, .int mcl, .int mdo, .int mnu, .ref m7, .ref m8, .ref m9, .ref m10])), (m1, .inl (cI, 24, .inl mvl)), (m2, .inl (cI, 96, .inl mof)), (m3, .inl (cI, 168, .inl mw)), (m4, .inl (cF, 288, .inr (.inr (.inl mf)))), (m5, .inl (cZ, 2, .inl mik)), (m6, .inl (cI, 200, .inl zz.2.1)), (m7, .inl (cI, 56, .inl mwd)), (m8, .inl (cI, 3, .inl msz)), (m9, .inl (cI, 3, .inl mso)), (m10, .inl (cI, 24, .inl mpl))] (some (.int zz.1)) := by
  refine Ct.ofW (cc := cX6_write) (maxL := 2) (ret := (some .int)) (by decide) rfl (Nat.le_of_ble_eq_true rfl) ?_
  intro p e s m args below meth c hx hb hr hml hts hown hlocks hnm hK hE A Q hQ hB H locs ls hP hD hS hl
  have hl : lv_has ls 2 [(0, .ref ma), (1, .int ch)] := hl
  have w0 := hts (.constantLong RX6 52 (255)) (by decide +kernel)
  have w1 : ∀ w ∈ u_ws RX6 TX6 23, w ∈ wsX6_write := by decide +kernel
  have w2 := hts (.fieldLink RX6 58 "MotionStatesModel" "length" "I") (by decide +kernel)
  have w3 := hts (.fieldLink RX6 31 "MotionStatesModel" "text" "[I") (by decide +kernel)
  unfold f_X6_write at hf
  refine lv_iload_n hx hb dX6_write_0 rfl (lv_at hl 1 rfl) ?_
  refine lv_i2l hx hb dX6_write_1 rfl ?_
  refine lv_lconst (v := 0) hx hb dX6_write_2 (by decide) ?_
  refine lv_ldc2 hx hb hown w0 dX6_write_3 ?_
  obtain ⟨r1, hc2, hf⟩ := bd_inv hf
  refine xcS (As := [.long (ch.toInt64), .long 0, .long 255]) (rest := []) (ws' := [(ma, .inr (6, [.int mst, .int mwy, .int mmk, .int mwt, .ref m1, .ref m2, .ref m3, .ref m4, .int mun, .ref m5, .ref m6, .int mln, .int mfi, .int mbe, .int mrs, .int mrw, .int mcl, .int mdo, .int mnu, .ref m7, .ref m8, .ref m9, .ref m10])), (m1, .inl (cI, 24, .inl mvl)), (m2, .inl (cI, 96, .inl mof)), (m3, .inl (cI, 168, .inl mw)), (m4, .inl (cF, 288, .inr (.inr (.inl mf)))), (m5, .inl (cZ, 2, .inl mik)), (m6, .inl (cI, 200, .inl mtx)), (m7, .inl (cI, 56, .inl mwd)), (m8, .inl (cI, 3, .inl msz)), (m9, .inl (cI, 3, .inl mso)), (m10, .inl (cI, 24, .inl mpl))]) ⟨hx, hb, hml, hown, hts⟩ (c_X6_in l D B adK adV cC cF cI cZ cM cS (ch.toInt64) 0 255  r1 hc2) (va_cwS 3 hts gX6_write_X6_in rfl rfl rfl (by decide +kernel) ⟨Nat.le_of_ble_eq_true rfl, Nat.le_of_ble_eq_true rfl⟩) hK hP hD hS hB hE [] rfl rfl rfl rfl rfl hl.1 rfl (Nat.le_of_ble_eq_true rfl) dX6_write_6 ⟨Nat.le_of_ble_eq_true rfl, Nat.le_of_ble_eq_true rfl⟩ (fun H locs hP hD hS => ?_)
  refine W.eq (g2 := F0 m 9 ls [.int r1]) rfl ?_
  refine lv_if_ne (tgt := 15) hx hb dX6_write_9 (by decide) (fun c3 => ?_) (fun c3 => ?_)
  · have hf := if_n c3 hf
    refine lv_aload_n hx hb dX6_write_15 rfl (lv_at hl 0 rfl) ?_
    refine va_get (D := D) (ci := 6) (v := .int mln) (C := RX6) (T := TX6) (N := 23) hx hb hts w1 hown hK hP 0 rfl rfl 11 (by decide) w2 (fun _ h9 => h9) rfl dX6_write_16 ?_
    refine lv_sipush (v := 200) hx hb dX6_write_19 (by decide) ?_
    refine lv_icmp_ne (tgt := 28) hx hb dX6_write_22 (by decide) (fun c4 => ?_) (fun c4 => ?_)
    · have hf := if_n c4 hf
      refine lv_aload_n hx hb dX6_write_28 rfl (lv_at hl 0 rfl) ?_
      refine va_get (D := D) (ci := 6) (v := .ref m6) (C := RX6) (T := TX6) (N := 23) hx hb hts w1 hown hK hP 0 rfl rfl 10 (by decide) w3 (fun _ h9 => h9) rfl dX6_write_29 ?_
      refine lv_aload_n hx hb dX6_write_32 rfl (lv_at hl 0 rfl) ?_
      refine va_get (D := D) (ci := 6) (v := .int mln) (C := RX6) (T := TX6) (N := 23) hx hb hts w1 hown hK hP 0 rfl rfl 11 (by decide) w2 (fun _ h9 => h9) rfl dX6_write_33 ?_
      refine lv_iload_n hx hb dX6_write_36 rfl (lv_at hl 1 rfl) ?_
      obtain ⟨g5, hf⟩ := gd_inv hf
      refine va_iast hx hb hK hP hD hS 6 2 rfl rfl g5 dX6_write_37 (fun H locs hP hD hS => ?_)
      have hP : va_P D vwCl [(ma, .inr (6, [.int mst, .int mwy, .int mmk, .int mwt, .ref m1, .ref m2, .ref m3, .ref m4, .int mun, .ref m5, .ref m6, .int mln, .int mfi, .int mbe, .int mrs, .int mrw, .int mcl, .int mdo, .int mnu, .ref m7, .ref m8, .ref m9, .ref m10])), (m1, .inl (cI, 24, .inl mvl)), (m2, .inl (cI, 96, .inl mof)), (m3, .inl (cI, 168, .inl mw)), (m4, .inl (cF, 288, .inr (.inr (.inl mf)))), (m5, .inl (cZ, 2, .inl mik)), (m6, .inl (cI, 200, .inl (upd mtx mln.toNatClampNeg ch))), (m7, .inl (cI, 56, .inl mwd)), (m8, .inl (cI, 3, .inl msz)), (m9, .inl (cI, 3, .inl mso)), (m10, .inl (cI, 24, .inl mpl))] H := hP
      have hD : va_D A [(ma, .inr (6, [.int mst, .int mwy, .int mmk, .int mwt, .ref m1, .ref m2, .ref m3, .ref m4, .int mun, .ref m5, .ref m6, .int mln, .int mfi, .int mbe, .int mrs, .int mrw, .int mcl, .int mdo, .int mnu, .ref m7, .ref m8, .ref m9, .ref m10])), (m1, .inl (cI, 24, .inl mvl)), (m2, .inl (cI, 96, .inl mof)), (m3, .inl (cI, 168, .inl mw)), (m4, .inl (cF, 288, .inr (.inr (.inl mf)))), (m5, .inl (cZ, 2, .inl mik)), (m6, .inl (cI, 200, .inl (upd mtx mln.toNatClampNeg ch))), (m7, .inl (cI, 56, .inl mwd)), (m8, .inl (cI, 3, .inl msz)), (m9, .inl (cI, 3, .inl mso)), (m10, .inl (cI, 24, .inl mpl))] := hD
      refine lv_aload_n hx hb dX6_write_38 rfl (lv_at hl 0 rfl) ?_
      refine lv_dup hx hb dX6_write_39 rfl ?_
      refine va_get (D := D) (ci := 6) (v := .int mln) (C := RX6) (T := TX6) (N := 23) hx hb hts w1 hown hK hP 0 rfl rfl 11 (by decide) w2 (fun _ h9 => h9) rfl dX6_write_40 ?_
      refine lv_iconst (v := 1) hx hb dX6_write_43 (by decide) ?_
      refine lv_iadd hx hb dX6_write_44 ?_
      refine va_put (D := D) (ci := 6) (v := .int (mln + 1)) (ty := .int) (C := RX6) (T := TX6) (N := 23) hx hb hts w1 tyX6 tyX6_ok nmX6 hown hK hP hD hS 0 rfl rfl 11 (by decide) w2 (fun _ h9 => h9) rfl (by decide +kernel) rfl rfl (Nat.le_of_ble_eq_true rfl) dX6_write_45 (fun H locs hP hD hS => ?_)
      have hP : va_P D vwCl [(ma, .inr (6, [.int mst, .int mwy, .int mmk, .int mwt, .ref m1, .ref m2, .ref m3, .ref m4, .int mun, .ref m5, .ref m6, .int (mln + 1), .int mfi, .int mbe, .int mrs, .int mrw, .int mcl, .int mdo, .int mnu, .ref m7, .ref m8, .ref m9, .ref m10])), (m1, .inl (cI, 24, .inl mvl)), (m2, .inl (cI, 96, .inl mof)), (m3, .inl (cI, 168, .inl mw)), (m4, .inl (cF, 288, .inr (.inr (.inl mf)))), (m5, .inl (cZ, 2, .inl mik)), (m6, .inl (cI, 200, .inl (upd mtx mln.toNatClampNeg ch))), (m7, .inl (cI, 56, .inl mwd)), (m8, .inl (cI, 3, .inl msz)), (m9, .inl (cI, 3, .inl mso)), (m10, .inl (cI, 24, .inl mpl))] H := hP
      have hD : va_D A [(ma, .inr (6, [.int mst, .int mwy, .int mmk, .int mwt, .ref m1, .ref m2, .ref m3, .ref m4, .int mun, .ref m5, .ref m6, .int (mln + 1), .int mfi, .int mbe, .int mrs, .int mrw, .int mcl, .int mdo, .int mnu, .ref m7, .ref m8, .ref m9, .ref m10])), (m1, .inl (cI, 24, .inl mvl)), (m2, .inl (cI, 96, .inl mof)), (m3, .inl (cI, 168, .inl mw)), (m4, .inl (cF, 288, .inr (.inr (.inl mf)))), (m5, .inl (cZ, 2, .inl mik)), (m6, .inl (cI, 200, .inl (upd mtx mln.toNatClampNeg ch))), (m7, .inl (cI, 56, .inl mwd)), (m8, .inl (cI, 3, .inl msz)), (m9, .inl (cI, 3, .inl mso)), (m10, .inl (cI, 24, .inl mpl))] := hD
      refine lv_aload_n hx hb dX6_write_48 rfl (lv_at hl 0 rfl) ?_
      refine va_get (D := D) (ci := 6) (v := .int (mln + 1)) (C := RX6) (T := TX6) (N := 23) hx hb hts w1 hown hK hP 0 rfl rfl 11 (by decide) w2 (fun _ h9 => h9) rfl dX6_write_49 ?_
      have h1 := Option.some.inj hf
      subst h1
      rw [hQ]
      exact W.iret (v := (mln + 1)) hx hb hr (fun t ht hW => qEnd hP hS ht) hS.2.2 dX6_write_52
    · have hf := if_p c4 hf
      refine lv_bipush (v := (-5)) hx hb dX6_write_25 (by decide) ?_
      have h1 := Option.some.inj hf
      subst h1
      rw [hQ]
      exact W.iret (v := (-5)) hx hb hr (fun t ht hW => qEnd hP hS ht) hS.2.2 dX6_write_27
  · have hf := if_p c3 hf
    refine lv_bipush (v := (-3)) hx hb dX6_write_12 (by decide) ?_
    have h1 := Option.some.inj hf
    subst h1
    rw [hQ]
    exact W.iret (v := (-3)) hx hb hr (fun t ht hW => qEnd hP hS ht) hS.2.2 dX6_write_14
set_option maxRecDepth 100000 in
set_option maxHeartbeats 4000000 in
theorem c_X6_erase (l : Launch) (D : va_G) (B : Nat) (adK adV : Nat → Nat) (cC cF cI cZ cM cS : ClassId) (ma : Nat) (mst : Int32) (mwy : Int32) (mmk : Int32) (mwt : Int32) (m1 : Nat) (m2 : Nat) (m3 : Nat) (m4 : Nat) (mun : Int32) (m5 : Nat) (m6 : Nat) (mln : Int32) (mfi : Int32) (mbe : Int32) (mrs : Int32) (mrw : Int32) (mcl : Int32) (mdo : Int32) (mnu : Int32) (m7 : Nat) (m8 : Nat) (m9 : Nat) (m10 : Nat) (mvl : Nat → Int32) (mof : Nat → Int32) (mw : Nat → Int32) (mf : Nat → UInt32) (mik : Nat → Int32) (mtx : Nat → Int32) (mwd : Nat → Int32) (msz : Nat → Int32) (mso : Nat → Int32) (mpl : Nat → Int32) (zz : Int32 × Int32) (hf : f_X6_erase mln = some zz) : Ct l yX6_erase wsX6_erase { frames := 0, cells := 0, slots := 0, locals := 0 } D B adK adV (tysX cC cF cI cZ cM cS) [.ref ma] [(ma, .inr (6, [.int mst, .int mwy, .int mmk, .int mwt, .ref m1, .ref m2, .ref m3, .ref m4, .int mun, .ref m5, .ref m6, .int mln, .int mfi, .int mbe, .int mrs, .int mrw, .int mcl, .int mdo, .int mnu, .ref m7, .ref m8, .ref m9, .ref m10])), (m1, .inl (cI, 24, .inl mvl)), (m2, .inl (cI, 96, .inl mof)), (m3, .inl (cI, 168, .inl mw)), (m4, .inl (cF, 288, .inr (.inr (.inl mf)))), (m5, .inl (cZ, 2, .inl mik)), (m6, .inl (cI, 200, .inl mtx)), (m7, .inl (cI, 56, .inl mwd)), (m8, .inl (cI, 3, .inl msz)), (m9, .inl (cI, 3, .inl mso)), (m10, .inl (cI, 24, .inl mpl))] [(ma, .inr (6, [.int mst, .int mwy, .int mmk, .int mwt, .ref m1, .ref m2, .ref m3, .ref m4, .int mun, .ref m5, .ref m6, .int zz.2, .int mfi, .int mbe, .int mrs, .int mrw, .int mcl, .int mdo, .int mnu, .ref m7, .ref m8, .ref m9, .ref m10])), (m1, .inl (cI, 24, .inl mvl)), (m2, .inl (cI, 96, .inl mof)), (m3, .inl (cI, 168, .inl mw)), (m4, .inl (cF, 288, .inr (.inr (.inl mf)))), (m5, .inl (cZ, 2, .inl mik)), (m6, .inl (cI, 200, .inl mtx)), (m7, .inl (cI, 56, .inl mwd)), (m8, .inl (cI, 3, .inl msz)), (m9, .inl (cI, 3, .inl mso)), (m10, .inl (cI, 24, .inl mpl))] (some (.int zz.1)) := by
  refine Ct.ofW (cc := cX6_erase) (maxL := 2) (ret := (some .int)) (by decide) rfl (Nat.le_of_ble_eq_true rfl) ?_
  intro p e s m args below meth c hx hb hr hml hts hown hlocks hnm hK hE A Q hQ hB H locs ls hP hD hS hl
  have hl : lv_has ls 2 [(0, .ref ma)] := hl
  have w0 : ∀ w ∈ u_ws RX6 TX6 23, w ∈ wsX6_erase := by decide +kernel
  have w1 := hts (.fieldLink RX6 58 "MotionStatesModel" "length" "I") (by decide +kernel)
  unfold f_X6_erase at hf
  refine lv_aload_n hx hb dX6_erase_0 rfl (lv_at hl 0 rfl) ?_
  refine va_get (D := D) (ci := 6) (v := .int mln) (C := RX6) (T := TX6) (N := 23) hx hb hts w0 hown hK hP 0 rfl rfl 11 (by decide) w1 (fun _ h9 => h9) rfl dX6_erase_1 ?_
  refine lv_istore_n (lv' := [(1, .int mln), (0, .ref ma)]) hx hb dX6_erase_4 rfl hl (by decide) rfl (fun ls hl => ?_)
  refine lv_aload_n hx hb dX6_erase_5 rfl (lv_at hl 1 rfl) ?_
  refine lv_iconst (v := 0) hx hb dX6_erase_6 (by decide) ?_
  refine va_put (D := D) (ci := 6) (v := .int 0) (ty := .int) (C := RX6) (T := TX6) (N := 23) hx hb hts w0 tyX6 tyX6_ok nmX6 hown hK hP hD hS 0 rfl rfl 11 (by decide) w1 (fun _ h9 => h9) rfl (by decide +kernel) rfl rfl (Nat.le_of_ble_eq_true rfl) dX6_erase_7 (fun H locs hP hD hS => ?_)
  have hP : va_P D vwCl [(ma, .inr (6, [.int mst, .int mwy, .int mmk, .int mwt, .ref m1, .ref m2, .ref m3, .ref m4, .int mun, .ref m5, .ref m6, .int 0, .int mfi, .int mbe, .int mrs, .int mrw, .int mcl, .int mdo, .int mnu, .ref m7, .ref m8, .ref m9, .ref m10])), (m1, .inl (cI, 24, .inl mvl)), (m2, .inl (cI, 96, .inl mof)), (m3, .inl (cI, 168, .inl mw)), (m4, .inl (cF, 288, .inr (.inr (.inl mf)))), (m5, .inl (cZ, 2, .inl mik)), (m6, .inl (cI, 200, .inl mtx)), (m7, .inl (cI, 56, .inl mwd)), (m8, .inl (cI, 3, .inl msz)), (m9, .inl (cI, 3, .inl mso)), (m10, .inl (cI, 24, .inl mpl))] H := hP
  have hD : va_D A [(ma, .inr (6, [.int mst, .int mwy, .int mmk, .int mwt, .ref m1, .ref m2, .ref m3, .ref m4, .int mun, .ref m5, .ref m6, .int 0, .int mfi, .int mbe, .int mrs, .int mrw, .int mcl, .int mdo, .int mnu, .ref m7, .ref m8, .ref m9, .ref m10])), (m1, .inl (cI, 24, .inl mvl)), (m2, .inl (cI, 96, .inl mof)), (m3, .inl (cI, 168, .inl mw)), (m4, .inl (cF, 288, .inr (.inr (.inl mf)))), (m5, .inl (cZ, 2, .inl mik)), (m6, .inl (cI, 200, .inl mtx)), (m7, .inl (cI, 56, .inl mwd)), (m8, .inl (cI, 3, .inl msz)), (m9, .inl (cI, 3, .inl mso)), (m10, .inl (cI, 24, .inl mpl))] := hD
  refine lv_iload_n hx hb dX6_erase_10 rfl (lv_at hl 0 rfl) ?_
  have h1 := Option.some.inj hf
  subst h1
  rw [hQ]
  exact W.iret (v := mln) hx hb hr (fun t ht hW => qEnd hP hS ht) hS.2.2 dX6_erase_11
set_option maxRecDepth 100000 in
set_option maxHeartbeats 4000000 in
theorem c_X6_isState (l : Launch) (D : va_G) (B : Nat) (adK adV : Nat → Nat) (cC cF cI cZ cM cS : ClassId) (ma : Nat) (mst : Int32) (mwy : Int32) (mmk : Int32) (mwt : Int32) (m1 : Nat) (m2 : Nat) (m3 : Nat) (m4 : Nat) (mun : Int32) (m5 : Nat) (m6 : Nat) (mln : Int32) (mfi : Int32) (mbe : Int32) (mrs : Int32) (mrw : Int32) (mcl : Int32) (mdo : Int32) (mnu : Int32) (m7 : Nat) (m8 : Nat) (m9 : Nat) (m10 : Nat) (mvl : Nat → Int32) (mof : Nat → Int32) (mw : Nat → Int32) (mf : Nat → UInt32) (mik : Nat → Int32) (mtx : Nat → Int32) (mwd : Nat → Int32) (msz : Nat → Int32) (mso : Nat → Int32) (mpl : Nat → Int32) (i : Int32) (zz : Int32) (hf : f_X6_isState mst i = some zz) : Ct l yX6_isState wsX6_isState { frames := 1, cells := 0, slots := 0, locals := 25 } D B adK adV (tysX cC cF cI cZ cM cS) [.ref ma, .int i] [(ma, .inr (6, [.int mst, .int mwy, .int mmk, .int mwt, .ref m1, .ref m2, .ref m3, .ref m4, .int mun, .ref m5, .ref m6, .int mln, .int mfi, .int mbe, .int mrs, .int mrw, .int mcl, .int mdo, .int mnu, .ref m7, .ref m8, .ref m9, .ref m10])), (m1, .inl (cI, 24, .inl mvl)), (m2, .inl (cI, 96, .inl mof)), (m3, .inl (cI, 168, .inl mw)), (m4, .inl (cF, 288, .inr (.inr (.inl mf)))), (m5, .inl (cZ, 2, .inl mik)), (m6, .inl (cI, 200, .inl mtx)), (m7, .inl (cI, 56, .inl mwd)), (m8, .inl (cI, 3, .inl msz)), (m9, .inl (cI, 3, .inl mso)), (m10, .inl (cI, 24, .inl mpl))] [(ma, .inr (6, [.int mst, .int mwy, .int mmk, .int mwt, .ref m1, .ref m2, .ref m3, .ref m4, .int mun, .ref m5, .ref m6, .int mln, .int mfi, .int mbe, .int mrs, .int mrw, .int mcl, .int mdo, .int mnu, .ref m7, .ref m8, .ref m9, .ref m10])), (m1, .inl (cI, 24, .inl mvl)), (m2, .inl (cI, 96, .inl mof)), (m3, .inl (cI, 168, .inl mw)), (m4, .inl (cF, 288, .inr (.inr (.inl mf)))), (m5, .inl (cZ, 2, .inl mik)), (m6, .inl (cI, 200, .inl mtx)), (m7, .inl (cI, 56, .inl mwd)), (m8, .inl (cI, 3, .inl msz)), (m9, .inl (cI, 3, .inl mso)), (m10, .inl (cI, 24, .inl mpl))] (some (.int zz)) := by
  refine Ct.ofW (cc := cX6_isState) (maxL := 2) (ret := (some .boolean)) (by decide) rfl (Nat.le_of_ble_eq_true rfl) ?_
  intro p e s m args below meth c hx hb hr hml hts hown hlocks hnm hK hE A Q hQ hB H locs ls hP hD hS hl
  have hl : lv_has ls 2 [(0, .ref ma), (1, .int i)] := hl
  have w0 : ∀ w ∈ u_ws RX6 TX6 23, w ∈ wsX6_isState := by decide +kernel
  have w1 := hts (.fieldLink RX6 144 "MotionStatesModel" "states" "I") (by decide +kernel)
  unfold f_X6_isState at hf
  refine lv_iload_n hx hb dX6_isState_0 rfl (lv_at hl 1 rfl) ?_
  refine lv_i2l hx hb dX6_isState_1 rfl ?_
  refine lv_lconst (v := 0) hx hb dX6_isState_2 (by decide) ?_
  refine lv_aload_n hx hb dX6_isState_3 rfl (lv_at hl 0 rfl) ?_
  refine va_get (D := D) (ci := 6) (v := .int mst) (C := RX6) (T := TX6) (N := 23) hx hb hts w0 hown hK hP 0 rfl rfl 0 (by decide) w1 (fun _ h9 => h9) rfl dX6_isState_4 ?_
  refine lv_iconst (v := 1) hx hb dX6_isState_7 (by decide) ?_
  refine lv_isub hx hb dX6_isState_8 ?_
  refine lv_i2l hx hb dX6_isState_9 rfl ?_
  obtain ⟨r1, hc2, hf⟩ := bd_inv hf
  refine xcS (As := [.long (i.toInt64), .long 0, .long ((mst - 1).toInt64)]) (rest := []) (ws' := [(ma, .inr (6, [.int mst, .int mwy, .int mmk, .int mwt, .ref m1, .ref m2, .ref m3, .ref m4, .int mun, .ref m5, .ref m6, .int mln, .int mfi, .int mbe, .int mrs, .int mrw, .int mcl, .int mdo, .int mnu, .ref m7, .ref m8, .ref m9, .ref m10])), (m1, .inl (cI, 24, .inl mvl)), (m2, .inl (cI, 96, .inl mof)), (m3, .inl (cI, 168, .inl mw)), (m4, .inl (cF, 288, .inr (.inr (.inl mf)))), (m5, .inl (cZ, 2, .inl mik)), (m6, .inl (cI, 200, .inl mtx)), (m7, .inl (cI, 56, .inl mwd)), (m8, .inl (cI, 3, .inl msz)), (m9, .inl (cI, 3, .inl mso)), (m10, .inl (cI, 24, .inl mpl))]) ⟨hx, hb, hml, hown, hts⟩ (c_X6_in l D B adK adV cC cF cI cZ cM cS (i.toInt64) 0 ((mst - 1).toInt64)  r1 hc2) (va_cwS 3 hts gX6_isState_X6_in rfl rfl rfl (by decide +kernel) ⟨Nat.le_of_ble_eq_true rfl, Nat.le_of_ble_eq_true rfl⟩) hK hP hD hS hB hE [] rfl rfl rfl rfl rfl hl.1 rfl (Nat.le_of_ble_eq_true rfl) dX6_isState_10 ⟨Nat.le_of_ble_eq_true rfl, Nat.le_of_ble_eq_true rfl⟩ (fun H locs hP hD hS => ?_)
  refine W.eq (g2 := F0 m 13 ls [.int r1]) rfl ?_
  obtain ⟨g3, hf⟩ := gd_inv hf
  have h1 := Option.some.inj hf
  subst h1
  rw [hQ]
  exact W.zret (v := r1) (ty := .boolean) hx hb hr (zok_n g3) (fun t ht hW => qEnd hP hS ht) hS.2.2 dX6_isState_13
set_option maxRecDepth 100000 in
set_option maxHeartbeats 4000000 in
theorem c_X6_value (l : Launch) (D : va_G) (B : Nat) (adK adV : Nat → Nat) (cC cF cI cZ cM cS : ClassId) (ma : Nat) (mst : Int32) (mwy : Int32) (mmk : Int32) (mwt : Int32) (m1 : Nat) (m2 : Nat) (m3 : Nat) (m4 : Nat) (mun : Int32) (m5 : Nat) (m6 : Nat) (mln : Int32) (mfi : Int32) (mbe : Int32) (mrs : Int32) (mrw : Int32) (mcl : Int32) (mdo : Int32) (mnu : Int32) (m7 : Nat) (m8 : Nat) (m9 : Nat) (m10 : Nat) (mvl : Nat → Int32) (mof : Nat → Int32) (mw : Nat → Int32) (mf : Nat → UInt32) (mik : Nat → Int32) (mtx : Nat → Int32) (mwd : Nat → Int32) (msz : Nat → Int32) (mso : Nat → Int32) (mpl : Nat → Int32) (i : Int32) (k : Int32) (zz : Int32) (hf : f_X6_value mst mvl i k = some zz) : Ct l yX6_value wsX6_value { frames := 2, cells := 0, slots := 0, locals := 46 } D B adK adV (tysX cC cF cI cZ cM cS) [.ref ma, .int i, .int k] [(ma, .inr (6, [.int mst, .int mwy, .int mmk, .int mwt, .ref m1, .ref m2, .ref m3, .ref m4, .int mun, .ref m5, .ref m6, .int mln, .int mfi, .int mbe, .int mrs, .int mrw, .int mcl, .int mdo, .int mnu, .ref m7, .ref m8, .ref m9, .ref m10])), (m1, .inl (cI, 24, .inl mvl)), (m2, .inl (cI, 96, .inl mof)), (m3, .inl (cI, 168, .inl mw)), (m4, .inl (cF, 288, .inr (.inr (.inl mf)))), (m5, .inl (cZ, 2, .inl mik)), (m6, .inl (cI, 200, .inl mtx)), (m7, .inl (cI, 56, .inl mwd)), (m8, .inl (cI, 3, .inl msz)), (m9, .inl (cI, 3, .inl mso)), (m10, .inl (cI, 24, .inl mpl))] [(ma, .inr (6, [.int mst, .int mwy, .int mmk, .int mwt, .ref m1, .ref m2, .ref m3, .ref m4, .int mun, .ref m5, .ref m6, .int mln, .int mfi, .int mbe, .int mrs, .int mrw, .int mcl, .int mdo, .int mnu, .ref m7, .ref m8, .ref m9, .ref m10])), (m1, .inl (cI, 24, .inl mvl)), (m2, .inl (cI, 96, .inl mof)), (m3, .inl (cI, 168, .inl mw)), (m4, .inl (cF, 288, .inr (.inr (.inl mf)))), (m5, .inl (cZ, 2, .inl mik)), (m6, .inl (cI, 200, .inl mtx)), (m7, .inl (cI, 56, .inl mwd)), (m8, .inl (cI, 3, .inl msz)), (m9, .inl (cI, 3, .inl mso)), (m10, .inl (cI, 24, .inl mpl))] (some (.int zz)) := by
  refine Ct.ofW (cc := cX6_value) (maxL := 3) (ret := (some .int)) (by decide) rfl (Nat.le_of_ble_eq_true rfl) ?_
  intro p e s m args below meth c hx hb hr hml hts hown hlocks hnm hK hE A Q hQ hB H locs ls hP hD hS hl
  have hl : lv_has ls 3 [(0, .ref ma), (1, .int i), (2, .int k)] := hl
  have w0 := hts (.constantLong RX6 162 (3)) (by decide +kernel)
  have w1 : ∀ w ∈ u_ws RX6 TX6 23, w ∈ wsX6_value := by decide +kernel
  have w2 := hts (.fieldLink RX6 13 "MotionStatesModel" "values" "[I") (by decide +kernel)
  unfold f_X6_value at hf
  refine lv_aload_n hx hb dX6_value_0 rfl (lv_at hl 0 rfl) ?_
  refine lv_iload_n hx hb dX6_value_1 rfl (lv_at hl 1 rfl) ?_
  obtain ⟨r1, hc2, hf⟩ := bd_inv hf
  refine xcV (As := [.int i]) (rest := []) (ws' := [(ma, .inr (6, [.int mst, .int mwy, .int mmk, .int mwt, .ref m1, .ref m2, .ref m3, .ref m4, .int mun, .ref m5, .ref m6, .int mln, .int mfi, .int mbe, .int mrs, .int mrw, .int mcl, .int mdo, .int mnu, .ref m7, .ref m8, .ref m9, .ref m10])), (m1, .inl (cI, 24, .inl mvl)), (m2, .inl (cI, 96, .inl mof)), (m3, .inl (cI, 168, .inl mw)), (m4, .inl (cF, 288, .inr (.inr (.inl mf)))), (m5, .inl (cZ, 2, .inl mik)), (m6, .inl (cI, 200, .inl mtx)), (m7, .inl (cI, 56, .inl mwd)), (m8, .inl (cI, 3, .inl msz)), (m9, .inl (cI, 3, .inl mso)), (m10, .inl (cI, 24, .inl mpl))]) ⟨hx, hb, hml, hown, hts⟩ (c_X6_isState l D B adK adV cC cF cI cZ cM cS ma mst mwy mmk mwt m1 m2 m3 m4 mun m5 m6 mln mfi mbe mrs mrw mcl mdo mnu m7 m8 m9 m10 mvl mof mw mf mik mtx mwd msz mso mpl i  r1 hc2) (cwV 1 hts gX6_value_X6_isState rfl rfl rfl (by decide +kernel) ⟨Nat.le_of_ble_eq_true rfl, Nat.le_of_ble_eq_true rfl⟩) (va_recv hK hP (ci := 6) (q0 := 0) rfl rfl) hK hP hD hS hB hE [0, 1, 2, 3, 4, 5, 6, 7, 8, 9, 10] rfl rfl rfl rfl rfl hl.1 rfl (Nat.le_of_ble_eq_true rfl) dX6_value_2 ⟨Nat.le_of_ble_eq_true rfl, Nat.le_of_ble_eq_true rfl⟩ (fun H locs hP hD hS => ?_)
  refine W.eq (g2 := F0 m 5 ls [.int r1]) rfl ?_
  refine lv_if_eq (tgt := 36) hx hb dX6_value_5 (by decide) (fun c3 => ?_) (fun c3 => ?_)
  · have hf := if_p c3 hf
    refine lv_bipush (v := (-2)) hx hb dX6_value_36 (by decide) ?_
    have h1 := Option.some.inj hf
    subst h1
    rw [hQ]
    exact W.iret (v := (-2)) hx hb hr (fun t ht hW => qEnd hP hS ht) hS.2.2 dX6_value_38
  · have hf := if_n c3 hf
    refine lv_iload_n hx hb dX6_value_8 rfl (lv_at hl 2 rfl) ?_
    refine lv_i2l hx hb dX6_value_9 rfl ?_
    refine lv_lconst (v := 0) hx hb dX6_value_10 (by decide) ?_
    refine lv_ldc2 hx hb hown w0 dX6_value_11 ?_
    obtain ⟨r4, hc5, hf⟩ := bd_inv hf
    refine xcS (As := [.long (k.toInt64), .long 0, .long 3]) (rest := []) (ws' := [(ma, .inr (6, [.int mst, .int mwy, .int mmk, .int mwt, .ref m1, .ref m2, .ref m3, .ref m4, .int mun, .ref m5, .ref m6, .int mln, .int mfi, .int mbe, .int mrs, .int mrw, .int mcl, .int mdo, .int mnu, .ref m7, .ref m8, .ref m9, .ref m10])), (m1, .inl (cI, 24, .inl mvl)), (m2, .inl (cI, 96, .inl mof)), (m3, .inl (cI, 168, .inl mw)), (m4, .inl (cF, 288, .inr (.inr (.inl mf)))), (m5, .inl (cZ, 2, .inl mik)), (m6, .inl (cI, 200, .inl mtx)), (m7, .inl (cI, 56, .inl mwd)), (m8, .inl (cI, 3, .inl msz)), (m9, .inl (cI, 3, .inl mso)), (m10, .inl (cI, 24, .inl mpl))]) ⟨hx, hb, hml, hown, hts⟩ (c_X6_in l D B adK adV cC cF cI cZ cM cS (k.toInt64) 0 3  r4 hc5) (va_cwS 3 hts gX6_value_X6_in rfl rfl rfl (by decide +kernel) ⟨Nat.le_of_ble_eq_true rfl, Nat.le_of_ble_eq_true rfl⟩) hK hP hD hS hB hE [] rfl rfl rfl rfl rfl hl.1 rfl (Nat.le_of_ble_eq_true rfl) dX6_value_14 ⟨Nat.le_of_ble_eq_true rfl, Nat.le_of_ble_eq_true rfl⟩ (fun H locs hP hD hS => ?_)
    refine W.eq (g2 := F0 m 17 ls [.int r4]) rfl ?_
    refine lv_if_eq (tgt := 36) hx hb dX6_value_17 (by decide) (fun c6 => ?_) (fun c6 => ?_)
    · have hf := if_p c6 hf
      refine lv_bipush (v := (-2)) hx hb dX6_value_36 (by decide) ?_
      have h1 := Option.some.inj hf
      subst h1
      rw [hQ]
      exact W.iret (v := (-2)) hx hb hr (fun t ht hW => qEnd hP hS ht) hS.2.2 dX6_value_38
    · have hf := if_n c6 hf
      refine lv_aload_n hx hb dX6_value_20 rfl (lv_at hl 0 rfl) ?_
      refine va_get (D := D) (ci := 6) (v := .ref m1) (C := RX6) (T := TX6) (N := 23) hx hb hts w1 hown hK hP 0 rfl rfl 4 (by decide) w2 (fun _ h9 => h9) rfl dX6_value_21 ?_
      refine lv_iconst (v := 4) hx hb dX6_value_24 (by decide) ?_
      refine lv_iload_n hx hb dX6_value_25 rfl (lv_at hl 1 rfl) ?_
      refine lv_imul hx hb dX6_value_26 ?_
      refine lv_iload_n hx hb dX6_value_27 rfl (lv_at hl 2 rfl) ?_
      refine lv_iadd hx hb dX6_value_28 ?_
      obtain ⟨g7, hf⟩ := gd_inv hf
      refine va_iald hx hb hK hP 1 2 rfl rfl g7 dX6_value_29 ?_
      refine lv_bipush (v := 100) hx hb dX6_value_30 (by decide) ?_
      refine lv_iadd hx hb dX6_value_32 ?_
      refine lv_goto (tgt := 38) hx hb dX6_value_33 (by decide) ?_
      have h1 := Option.some.inj hf
      subst h1
      rw [hQ]
      exact W.iret (v := ((mvl ((((4 : Int32) * i) + k).toNatClampNeg)) + 100)) hx hb hr (fun t ht hW => qEnd hP hS ht) hS.2.2 dX6_value_38
set_option maxRecDepth 100000 in
set_option maxHeartbeats 4000000 in
theorem c_X6_way (l : Launch) (D : va_G) (B : Nat) (adK adV : Nat → Nat) (cC cF cI cZ cM cS : ClassId) (ma : Nat) (mst : Int32) (mwy : Int32) (mmk : Int32) (mwt : Int32) (m1 : Nat) (m2 : Nat) (m3 : Nat) (m4 : Nat) (mun : Int32) (m5 : Nat) (m6 : Nat) (mln : Int32) (mfi : Int32) (mbe : Int32) (mrs : Int32) (mrw : Int32) (mcl : Int32) (mdo : Int32) (mnu : Int32) (m7 : Nat) (m8 : Nat) (m9 : Nat) (m10 : Nat) (mvl : Nat → Int32) (mof : Nat → Int32) (mw : Nat → Int32) (mf : Nat → UInt32) (mik : Nat → Int32) (mtx : Nat → Int32) (mwd : Nat → Int32) (msz : Nat → Int32) (mso : Nat → Int32) (mpl : Nat → Int32) (i : Int32) (k : Int32) (zz : Int32) (hf : f_X6_way mwy mof i k = some zz) : Ct l yX6_way wsX6_way { frames := 1, cells := 0, slots := 0, locals := 25 } D B adK adV (tysX cC cF cI cZ cM cS) [.ref ma, .int i, .int k] [(ma, .inr (6, [.int mst, .int mwy, .int mmk, .int mwt, .ref m1, .ref m2, .ref m3, .ref m4, .int mun, .ref m5, .ref m6, .int mln, .int mfi, .int mbe, .int mrs, .int mrw, .int mcl, .int mdo, .int mnu, .ref m7, .ref m8, .ref m9, .ref m10])), (m1, .inl (cI, 24, .inl mvl)), (m2, .inl (cI, 96, .inl mof)), (m3, .inl (cI, 168, .inl mw)), (m4, .inl (cF, 288, .inr (.inr (.inl mf)))), (m5, .inl (cZ, 2, .inl mik)), (m6, .inl (cI, 200, .inl mtx)), (m7, .inl (cI, 56, .inl mwd)), (m8, .inl (cI, 3, .inl msz)), (m9, .inl (cI, 3, .inl mso)), (m10, .inl (cI, 24, .inl mpl))] [(ma, .inr (6, [.int mst, .int mwy, .int mmk, .int mwt, .ref m1, .ref m2, .ref m3, .ref m4, .int mun, .ref m5, .ref m6, .int mln, .int mfi, .int mbe, .int mrs, .int mrw, .int mcl, .int mdo, .int mnu, .ref m7, .ref m8, .ref m9, .ref m10])), (m1, .inl (cI, 24, .inl mvl)), (m2, .inl (cI, 96, .inl mof)), (m3, .inl (cI, 168, .inl mw)), (m4, .inl (cF, 288, .inr (.inr (.inl mf)))), (m5, .inl (cZ, 2, .inl mik)), (m6, .inl (cI, 200, .inl mtx)), (m7, .inl (cI, 56, .inl mwd)), (m8, .inl (cI, 3, .inl msz)), (m9, .inl (cI, 3, .inl mso)), (m10, .inl (cI, 24, .inl mpl))] (some (.int zz)) := by
  refine Ct.ofW (cc := cX6_way) (maxL := 3) (ret := (some .int)) (by decide) rfl (Nat.le_of_ble_eq_true rfl) ?_
  intro p e s m args below meth c hx hb hr hml hts hown hlocks hnm hK hE A Q hQ hB H locs ls hP hD hS hl
  have hl : lv_has ls 3 [(0, .ref ma), (1, .int i), (2, .int k)] := hl
  have w0 : ∀ w ∈ u_ws RX6 TX6 23, w ∈ wsX6_way := by decide +kernel
  have w1 := hts (.fieldLink RX6 147 "MotionStatesModel" "ways" "I") (by decide +kernel)
  have w2 := hts (.constantLong RX6 164 (6)) (by decide +kernel)
  have w3 := hts (.fieldLink RX6 17 "MotionStatesModel" "of" "[I") (by decide +kernel)
  unfold f_X6_way at hf
  refine lv_iload_n hx hb dX6_way_0 rfl (lv_at hl 1 rfl) ?_
  refine lv_i2l hx hb dX6_way_1 rfl ?_
  refine lv_lconst (v := 0) hx hb dX6_way_2 (by decide) ?_
  refine lv_aload_n hx hb dX6_way_3 rfl (lv_at hl 0 rfl) ?_
  refine va_get (D := D) (ci := 6) (v := .int mwy) (C := RX6) (T := TX6) (N := 23) hx hb hts w0 hown hK hP 0 rfl rfl 1 (by decide) w1 (fun _ h9 => h9) rfl dX6_way_4 ?_
  refine lv_iconst (v := 1) hx hb dX6_way_7 (by decide) ?_
  refine lv_isub hx hb dX6_way_8 ?_
  refine lv_i2l hx hb dX6_way_9 rfl ?_
  obtain ⟨r1, hc2, hf⟩ := bd_inv hf
  refine xcS (As := [.long (i.toInt64), .long 0, .long ((mwy - 1).toInt64)]) (rest := []) (ws' := [(ma, .inr (6, [.int mst, .int mwy, .int mmk, .int mwt, .ref m1, .ref m2, .ref m3, .ref m4, .int mun, .ref m5, .ref m6, .int mln, .int mfi, .int mbe, .int mrs, .int mrw, .int mcl, .int mdo, .int mnu, .ref m7, .ref m8, .ref m9, .ref m10])), (m1, .inl (cI, 24, .inl mvl)), (m2, .inl (cI, 96, .inl mof)), (m3, .inl (cI, 168, .inl mw)), (m4, .inl (cF, 288, .inr (.inr (.inl mf)))), (m5, .inl (cZ, 2, .inl mik)), (m6, .inl (cI, 200, .inl mtx)), (m7, .inl (cI, 56, .inl mwd)), (m8, .inl (cI, 3, .inl msz)), (m9, .inl (cI, 3, .inl mso)), (m10, .inl (cI, 24, .inl mpl))]) ⟨hx, hb, hml, hown, hts⟩ (c_X6_in l D B adK adV cC cF cI cZ cM cS (i.toInt64) 0 ((mwy - 1).toInt64)  r1 hc2) (va_cwS 3 hts gX6_way_X6_in rfl rfl rfl (by decide +kernel) ⟨Nat.le_of_ble_eq_true rfl, Nat.le_of_ble_eq_true rfl⟩) hK hP hD hS hB hE [] rfl rfl rfl rfl rfl hl.1 rfl (Nat.le_of_ble_eq_true rfl) dX6_way_10 ⟨Nat.le_of_ble_eq_true rfl, Nat.le_of_ble_eq_true rfl⟩ (fun H locs hP hD hS => ?_)
  refine W.eq (g2 := F0 m 13 ls [.int r1]) rfl ?_
  refine lv_if_ne (tgt := 19) hx hb dX6_way_13 (by decide) (fun c3 => ?_) (fun c3 => ?_)
  · have hf := if_n c3 hf
    refine lv_iload_n hx hb dX6_way_19 rfl (lv_at hl 2 rfl) ?_
    refine lv_i2l hx hb dX6_way_20 rfl ?_
    refine lv_lconst (v := 0) hx hb dX6_way_21 (by decide) ?_
    refine lv_ldc2 hx hb hown w2 dX6_way_22 ?_
    obtain ⟨r4, hc5, hf⟩ := bd_inv hf
    refine xcS (As := [.long (k.toInt64), .long 0, .long 6]) (rest := []) (ws' := [(ma, .inr (6, [.int mst, .int mwy, .int mmk, .int mwt, .ref m1, .ref m2, .ref m3, .ref m4, .int mun, .ref m5, .ref m6, .int mln, .int mfi, .int mbe, .int mrs, .int mrw, .int mcl, .int mdo, .int mnu, .ref m7, .ref m8, .ref m9, .ref m10])), (m1, .inl (cI, 24, .inl mvl)), (m2, .inl (cI, 96, .inl mof)), (m3, .inl (cI, 168, .inl mw)), (m4, .inl (cF, 288, .inr (.inr (.inl mf)))), (m5, .inl (cZ, 2, .inl mik)), (m6, .inl (cI, 200, .inl mtx)), (m7, .inl (cI, 56, .inl mwd)), (m8, .inl (cI, 3, .inl msz)), (m9, .inl (cI, 3, .inl mso)), (m10, .inl (cI, 24, .inl mpl))]) ⟨hx, hb, hml, hown, hts⟩ (c_X6_in l D B adK adV cC cF cI cZ cM cS (k.toInt64) 0 6  r4 hc5) (va_cwS 3 hts gX6_way_X6_in rfl rfl rfl (by decide +kernel) ⟨Nat.le_of_ble_eq_true rfl, Nat.le_of_ble_eq_true rfl⟩) hK hP hD hS hB hE [] rfl rfl rfl rfl rfl hl.1 rfl (Nat.le_of_ble_eq_true rfl) dX6_way_25 ⟨Nat.le_of_ble_eq_true rfl, Nat.le_of_ble_eq_true rfl⟩ (fun H locs hP hD hS => ?_)
    refine W.eq (g2 := F0 m 28 ls [.int r4]) rfl ?_
    refine lv_if_eq (tgt := 58) hx hb dX6_way_28 (by decide) (fun c6 => ?_) (fun c6 => ?_)
    · have hf := if_p c6 hf
      refine lv_bipush (v := (-3)) hx hb dX6_way_58 (by decide) ?_
      have h1 := Option.some.inj hf
      subst h1
      rw [hQ]
      exact W.iret (v := (-3)) hx hb hr (fun t ht hW => qEnd hP hS ht) hS.2.2 dX6_way_60
    · have hf := if_n c6 hf
      refine lv_aload_n hx hb dX6_way_31 rfl (lv_at hl 0 rfl) ?_
      refine va_get (D := D) (ci := 6) (v := .ref m2) (C := RX6) (T := TX6) (N := 23) hx hb hts w0 hown hK hP 0 rfl rfl 5 (by decide) w3 (fun _ h9 => h9) rfl dX6_way_32 ?_
      refine lv_bipush (v := 8) hx hb dX6_way_35 (by decide) ?_
      refine lv_iload_n hx hb dX6_way_37 rfl (lv_at hl 1 rfl) ?_
      refine lv_imul hx hb dX6_way_38 ?_
      refine lv_iload_n hx hb dX6_way_39 rfl (lv_at hl 2 rfl) ?_
      refine lv_iadd hx hb dX6_way_40 ?_
      obtain ⟨g7, hf⟩ := gd_inv hf
      refine va_iald hx hb hK hP 2 2 rfl rfl g7 dX6_way_41 ?_
      refine lv_iload_n hx hb dX6_way_42 rfl (lv_at hl 2 rfl) ?_
      refine lv_bipush (v := 6) hx hb dX6_way_43 (by decide) ?_
      refine lv_icmp_ne (tgt := 53) hx hb dX6_way_45 (by decide) (fun c8 => ?_) (fun c8 => ?_)
      · have hf := if_n c8 hf
        refine lv_iconst (v := 0) hx hb dX6_way_53 (by decide) ?_
        refine lv_iadd hx hb dX6_way_54 ?_
        refine lv_goto (tgt := 60) hx hb dX6_way_55 (by decide) ?_
        have h1 := Option.some.inj hf
        subst h1
        rw [hQ]
        exact W.iret (v := ((mof ((((8 : Int32) * i) + k).toNatClampNeg)) + 0)) hx hb hr (fun t ht hW => qEnd hP hS ht) hS.2.2 dX6_way_60
      · have hf := if_p c8 hf
        refine lv_bipush (v := 100) hx hb dX6_way_48 (by decide) ?_
        refine lv_goto (tgt := 54) hx hb dX6_way_50 (by decide) ?_
        refine lv_iadd hx hb dX6_way_54 ?_
        refine lv_goto (tgt := 60) hx hb dX6_way_55 (by decide) ?_
        have h1 := Option.some.inj hf
        subst h1
        rw [hQ]
        exact W.iret (v := ((mof ((((8 : Int32) * i) + k).toNatClampNeg)) + 100)) hx hb hr (fun t ht hW => qEnd hP hS ht) hS.2.2 dX6_way_60
  · have hf := if_p c3 hf
    refine lv_bipush (v := (-2)) hx hb dX6_way_16 (by decide) ?_
    have h1 := Option.some.inj hf
    subst h1
    rw [hQ]
    exact W.iret (v := (-2)) hx hb hr (fun t ht hW => qEnd hP hS ht) hS.2.2 dX6_way_18
