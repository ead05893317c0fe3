set_option maxRecDepth 100000 in
set_option maxHeartbeats 4000000 in
theorem c_X4_isAtEnd (l : Launch) (D : va_G) (B : Nat) (adK adV : Nat → Nat) (cC cF cI cZ cM cS : ClassId) (ta : Nat) (tb : Nat) (tln : Int32) (tcl : Int32) (tts : Int32) (tte : Int32) (tam : Int32) (tc : Nat) (tlt : Nat → Int32) (tsv : Nat → Int32) (zz : Int32) (hf : f_X4_isAtEnd tln tts = some zz) : Ct l yX4_isAtEnd wsX4_isAtEnd { frames := 0, cells := 0, slots := 0, locals := 0 } D B adK adV (tysX cC cF cI cZ cM cS) [.ref ta] [(ta, .inr (4, [.ref tb, .int tln, .int tcl, .int tts, .int tte, .int tam, .ref tc])), (tb, .inl (cC, 200, .inl tlt)), (tc, .inl (cI, 4, .inl tsv))] [(ta, .inr (4, [.ref tb, .int tln, .int tcl, .int tts, .int tte, .int tam, .ref tc])), (tb, .inl (cC, 200, .inl tlt)), (tc, .inl (cI, 4, .inl tsv))] (some (.int zz)) := by
  refine Ct.ofW (cc := cX4_isAtEnd) (maxL := 1) (ret := (some .boolean)) (by decide) rfl (Nat.le_of_ble_eq_true rfl) ?_
  intro p e s m args below meth c hx hb hr hml hts hown hlocks hnm hK hE A Q hQ hB H locs ls hP hD hS hl
  have hl : lv_has ls 1 [(0, .ref ta)] := hl
  have w0 : ∀ w ∈ u_ws RX4 TX4 7, w ∈ wsX4_isAtEnd := by decide +kernel
  have w1 := hts (.fieldLink RX4 33 "MotionStates$Text" "tokenStart" "I") (by decide +kernel)
  have w2 := hts (.fieldLink RX4 139 "MotionStates$Text" "length" "I") (by decide +kernel)
  unfold f_X4_isAtEnd at hf
  refine lv_aload_n hx hb dX4_isAtEnd_0 rfl (lv_at hl 0 rfl) ?_
  refine va_get (D := D) (ci := 4) (v := .int tts) (C := RX4) (T := TX4) (N := 7) hx hb hts w0 hown hK hP 0 rfl rfl 3 (by decide) w1 (fun _ h9 => h9) rfl dX4_isAtEnd_1 ?_
  refine lv_aload_n hx hb dX4_isAtEnd_4 rfl (lv_at hl 0 rfl) ?_
  refine va_get (D := D) (ci := 4) (v := .int tln) (C := RX4) (T := TX4) (N := 7) hx hb hts w0 hown hK hP 0 rfl rfl 1 (by decide) w2 (fun _ h9 => h9) rfl dX4_isAtEnd_5 ?_
  refine lv_icmp_lt (tgt := 15) hx hb dX4_isAtEnd_8 (by decide) (fun c1 => ?_) (fun c1 => ?_)
  · have hf := if_p c1 hf
    refine lv_iconst (v := 0) hx hb dX4_isAtEnd_15 (by decide) ?_
    have h1 := Option.some.inj hf
    subst h1
    rw [hQ]
    exact W.zret (v := 0) (ty := .boolean) hx hb hr rfl (fun t ht hW => qEnd hP hS ht) hS.2.2 dX4_isAtEnd_16
  · have hf := if_n c1 hf
    refine lv_iconst (v := 1) hx hb dX4_isAtEnd_11 (by decide) ?_
    refine lv_goto (tgt := 16) hx hb dX4_isAtEnd_12 (by decide) ?_
    have h1 := Option.some.inj hf
    subst h1
    rw [hQ]
    exact W.zret (v := 1) (ty := .boolean) hx hb hr rfl (fun t ht hW => qEnd hP hS ht) hS.2.2 dX4_isAtEnd_16
set_option maxRecDepth 100000 in
set_option maxHeartbeats 4000000 in
theorem c_X4_isSign (l : Launch) (D : va_G) (B : Nat) (adK adV : Nat → Nat) (cC cF cI cZ cM cS : ClassId) (ta : Nat) (tb : Nat) (tln : Int32) (tcl : Int32) (tts : Int32) (tte : Int32) (tam : Int32) (tc : Nat) (tlt : Nat → Int32) (tsv : Nat → Int32) (ch : Int32) (zz : Int32) (hf : f_X4_isSign tts tte tlt ch = some zz) : Ct l yX4_isSign wsX4_isSign { frames := 0, cells := 0, slots := 0, locals := 0 } D B adK adV (tysX cC cF cI cZ cM cS) [.ref ta, .int ch] [(ta, .inr (4, [.ref tb, .int tln, .int tcl, .int tts, .int tte, .int tam, .ref tc])), (tb, .inl (cC, 200, .inl tlt)), (tc, .inl (cI, 4, .inl tsv))] [(ta, .inr (4, [.ref tb, .int tln, .int tcl, .int tts, .int tte, .int tam, .ref tc])), (tb, .inl (cC, 200, .inl tlt)), (tc, .inl (cI, 4, .inl tsv))] (some (.int zz)) := by
  refine Ct.ofW (cc := cX4_isSign) (maxL := 2) (ret := (some .boolean)) (by decide) rfl (Nat.le_of_ble_eq_true rfl) ?_
  intro p e s m args below meth c hx hb hr hml hts hown hlocks hnm hK hE A Q hQ hB H locs ls hP hD hS hl
  have hl : lv_has ls 2 [(0, .ref ta), (1, .int ch)] := hl
  have w0 : ∀ w ∈ u_ws RX4 TX4 7, w ∈ wsX4_isSign := by decide +kernel
  have w1 := hts (.fieldLink RX4 19 "MotionStates$Text" "tokenEnd" "I") (by decide +kernel)
  have w2 := hts (.fieldLink RX4 33 "MotionStates$Text" "tokenStart" "I") (by decide +kernel)
  have w3 := hts (.fieldLink RX4 9 "MotionStates$Text" "letters" "[C") (by decide +kernel)
  unfold f_X4_isSign at hf
  refine lv_aload_n hx hb dX4_isSign_0 rfl (lv_at hl 0 rfl) ?_
  refine va_get (D := D) (ci := 4) (v := .int tte) (C := RX4) (T := TX4) (N := 7) hx hb hts w0 hown hK hP 0 rfl rfl 4 (by decide) w1 (fun _ h9 => h9) rfl dX4_isSign_1 ?_
  refine lv_aload_n hx hb dX4_isSign_4 rfl (lv_at hl 0 rfl) ?_
  refine va_get (D := D) (ci := 4) (v := .int tts) (C := RX4) (T := TX4) (N := 7) hx hb hts w0 hown hK hP 0 rfl rfl 3 (by decide) w2 (fun _ h9 => h9) rfl dX4_isSign_5 ?_
  refine lv_isub hx hb dX4_isSign_8 ?_
  refine lv_iconst (v := 1) hx hb dX4_isSign_9 (by decide) ?_
  refine lv_icmp_ne (tgt := 30) hx hb dX4_isSign_10 (by decide) (fun c1 => ?_) (fun c1 => ?_)
  · have hf := if_n c1 hf
    refine lv_iconst (v := 0) hx hb dX4_isSign_30 (by decide) ?_
    have h1 := Option.some.inj hf
    subst h1
    rw [hQ]
    exact W.zret (v := 0) (ty := .boolean) hx hb hr rfl (fun t ht hW => qEnd hP hS ht) hS.2.2 dX4_isSign_31
  · have hf := if_p c1 hf
    refine lv_aload_n hx hb dX4_isSign_13 rfl (lv_at hl 0 rfl) ?_
    refine va_get (D := D) (ci := 4) (v := .ref tb) (C := RX4) (T := TX4) (N := 7) hx hb hts w0 hown hK hP 0 rfl rfl 0 (by decide) w3 (fun _ h9 => h9) rfl dX4_isSign_14 ?_
    refine lv_aload_n hx hb dX4_isSign_17 rfl (lv_at hl 0 rfl) ?_
    refine va_get (D := D) (ci := 4) (v := .int tts) (C := RX4) (T := TX4) (N := 7) hx hb hts w0 hown hK hP 0 rfl rfl 3 (by decide) w2 (fun _ h9 => h9) rfl dX4_isSign_18 ?_
    obtain ⟨g2, hf⟩ := gd_inv hf
    refine va_cald hx hb hK hP 1 0 rfl rfl g2 dX4_isSign_21 ?_
    refine lv_iload_n hx hb dX4_isSign_22 rfl (lv_at hl 1 rfl) ?_
    refine lv_icmp_ne (tgt := 30) hx hb dX4_isSign_23 (by decide) (fun c3 => ?_) (fun c3 => ?_)
    · have hf := if_n c3 hf
      refine lv_iconst (v := 0) hx hb dX4_isSign_30 (by decide) ?_
      have h1 := Option.some.inj hf
      subst h1
      rw [hQ]
      exact W.zret (v := 0) (ty := .boolean) hx hb hr rfl (fun t ht hW => qEnd hP hS ht) hS.2.2 dX4_isSign_31
    · have hf := if_p c3 hf
      refine lv_iconst (v := 1) hx hb dX4_isSign_26 (by decide) ?_
      refine lv_goto (tgt := 31) hx hb dX4_isSign_27 (by decide) ?_
      have h1 := Option.some.inj hf
      subst h1
      rw [hQ]
      exact W.zret (v := 1) (ty := .boolean) hx hb hr rfl (fun t ht hW => qEnd hP hS ht) hS.2.2 dX4_isSign_31
set_option maxRecDepth 100000 in
set_option maxHeartbeats 4000000 in
theorem c_X4_isWord (l : Launch) (D : va_G) (B : Nat) (adK adV : Nat → Nat) (cC cF cI cZ cM cS : ClassId) (ta : Nat) (tb : Nat) (tln : Int32) (tcl : Int32) (tts : Int32) (tte : Int32) (tam : Int32) (tc : Nat) (tlt : Nat → Int32) (tsv : Nat → Int32) (wi : Nat) (hwi : wi < 9) (zz : Int32) (hf : f_X4_isWord tts tte tlt wi = some zz) : Ct l yX4_isWord wsX4_isWord { frames := 4, cells := 0, slots := 0, locals := 85 } D B adK adV (tysX cC cF cI cZ cM cS) [.ref ta, .ref (adK wi)] [(ta, .inr (4, [.ref tb, .int tln, .int tcl, .int tts, .int tte, .int tam, .ref tc])), (tb, .inl (cC, 200, .inl tlt)), (tc, .inl (cI, 4, .inl tsv))] [(ta, .inr (4, [.ref tb, .int tln, .int tcl, .int tts, .int tte, .int tam, .ref tc])), (tb, .inl (cC, 200, .inl tlt)), (tc, .inl (cI, 4, .inl tsv))] (some (.int zz)) := by
  refine Ct.ofW (cc := cX4_isWord) (maxL := 3) (ret := (some .boolean)) (by decide) rfl (Nat.le_of_ble_eq_true rfl) ?_
  intro p e s m args below meth c hx hb hr hml hts hown hlocks hnm hK hE A Q hQ hB H locs ls hP hD hS hl
  have hl : lv_has ls 3 [(0, .ref ta), (1, .ref (adK wi))] := hl
  have w0 : ∀ w ∈ u_ws RX4 TX4 7, w ∈ wsX4_isWord := by decide +kernel
  have w1 := hts (.fieldLink RX4 19 "MotionStates$Text" "tokenEnd" "I") (by decide +kernel)
  have w2 := hts (.fieldLink RX4 33 "MotionStates$Text" "tokenStart" "I") (by decide +kernel)
  have hSt := vk_S.narrow hE.2.2.2.1 hB
  have w4 := hts (.fieldLink RX4 9 "MotionStates$Text" "letters" "[C") (by decide +kernel)
  have L20 : ∀ (n : Nat) (x2_20 : Int32), f_X4_isWord_L20 wi tts tlt n x2_20 = some zz → ∀ (H : Heap) (locs : List Loc) (ls : Array Slot), va_P D vwCl [(ta, .inr (4, [.ref tb, .int tln, .int tcl, .int tts, .int tte, .int tam, .ref tc])), (tb, .inl (cC, 200, .inl tlt)), (tc, .inl (cI, 4, .inl tsv))] H → va_D A [(ta, .inr (4, [.ref tb, .int tln, .int tcl, .int tts, .int tte, .int tam, .ref tc])), (tb, .inl (cC, 200, .inl tlt)), (tc, .inl (cI, 4, .inl tsv))] → va_S A s.heap H locs → lv_has ls 3 [(2, .int x2_20), (0, .ref ta), (1, .ref (adK wi))] → W p l e { frames := 4, cells := 0, slots := 0, locals := 85 } s m args below meth c H locs 0 0 Q (F0 m 20 ls []) := by
    intro n
    induction n with
    | zero => intro x2_20 hf; exact absurd hf (by simp [f_X4_isWord_L20])
    | succ n ih =>
      intro x2_20 hf H locs ls hP hD hS hl
      rw [f_X4_isWord_L20] at hf
      refine lv_iload_n hx hb dX4_isWord_20 rfl (lv_at hl 0 rfl) ?_
      refine lv_aload_n hx hb dX4_isWord_21 rfl (lv_at hl 2 rfl) ?_
      obtain ⟨r4, hc5, hf⟩ := bd_inv hf
      refine xcV (As := []) (rest := [.int x2_20]) (ws' := [(ta, .inr (4, [.ref tb, .int tln, .int tcl, .int tts, .int tte, .int tam, .ref tc])), (tb, .inl (cC, 200, .inl tlt)), (tc, .inl (cI, 4, .inl tsv))]) ⟨hx, hb, hml, hown, hts⟩ (c_J0_length_8abf5 l D B adK adV cC cF cI cZ cM cS wi hwi r4 hc5) (cwV 0 hts gX4_isWord_J0_length_8abf5 rfl rfl rfl (by decide +kernel) ⟨Nat.le_of_ble_eq_true rfl, Nat.le_of_ble_eq_true rfl⟩) (vk_recv hSt hwi hS) hK hP hD hS hB hE [] rfl rfl rfl rfl rfl hl.1 rfl (Nat.le_of_ble_eq_true rfl) dX4_isWord_22 ⟨Nat.le_of_ble_eq_true rfl, Nat.le_of_ble_eq_true rfl⟩ (fun H locs hP hD hS => ?_)
      refine W.eq (g2 := F0 m 25 ls [.int r4, .int x2_20]) rfl ?_
      refine lv_icmp_ge (tgt := 55) hx hb dX4_isWord_25 (by decide) (fun c6 => ?_) (fun c6 => ?_)
      · have hf := if_p c6 hf
        refine lv_iconst (v := 1) hx hb dX4_isWord_55 (by decide) ?_
        have h1 := Option.some.inj hf
        subst h1
        rw [hQ]
        exact W.zret (v := 1) (ty := .boolean) hx hb hr rfl (fun t ht hW => qEnd hP hS ht) hS.2.2 dX4_isWord_56
      · have hf := if_n c6 hf
        refine lv_aload_n hx hb dX4_isWord_28 rfl (lv_at hl 1 rfl) ?_
        refine va_get (D := D) (ci := 4) (v := .ref tb) (C := RX4) (T := TX4) (N := 7) hx hb hts w0 hown hK hP 0 rfl rfl 0 (by decide) w4 (fun _ h9 => h9) rfl dX4_isWord_29 ?_
        refine lv_aload_n hx hb dX4_isWord_32 rfl (lv_at hl 1 rfl) ?_
        refine va_get (D := D) (ci := 4) (v := .int tts) (C := RX4) (T := TX4) (N := 7) hx hb hts w0 hown hK hP 0 rfl rfl 3 (by decide) w2 (fun _ h9 => h9) rfl dX4_isWord_33 ?_
        refine lv_iload_n hx hb dX4_isWord_36 rfl (lv_at hl 0 rfl) ?_
        refine lv_iadd hx hb dX4_isWord_37 ?_
        obtain ⟨g7, hf⟩ := gd_inv hf
        refine va_cald hx hb hK hP 1 0 rfl rfl g7 dX4_isWord_38 ?_
        refine lv_aload_n hx hb dX4_isWord_39 rfl (lv_at hl 2 rfl) ?_
        refine lv_iload_n hx hb dX4_isWord_40 rfl (lv_at hl 0 rfl) ?_
        obtain ⟨r8, hc9, hf⟩ := bd_inv hf
        refine xcV (As := [.int x2_20]) (rest := [.int (tlt ((tts + x2_20).toNatClampNeg))]) (ws' := [(ta, .inr (4, [.ref tb, .int tln, .int tcl, .int tts, .int tte, .int tam, .ref tc])), (tb, .inl (cC, 200, .inl tlt)), (tc, .inl (cI, 4, .inl tsv))]) ⟨hx, hb, hml, hown, hts⟩ (c_J0_charAt_5068e l D B adK adV cC cF cI cZ cM cS wi x2_20 hwi r8 hc9) (cwV 1 hts gX4_isWord_J0_charAt_5068e rfl rfl rfl (by decide +kernel) ⟨Nat.le_of_ble_eq_true rfl, Nat.le_of_ble_eq_true rfl⟩) (vk_recv hSt hwi hS) hK hP hD hS hB hE [] rfl rfl rfl rfl rfl hl.1 rfl (Nat.le_of_ble_eq_true rfl) dX4_isWord_41 ⟨Nat.le_of_ble_eq_true rfl, Nat.le_of_ble_eq_true rfl⟩ (fun H locs hP hD hS => ?_)
        refine W.eq (g2 := F0 m 44 ls [.int r8, .int (tlt ((tts + x2_20).toNatClampNeg))]) rfl ?_
        refine lv_icmp_eq (tgt := 49) hx hb dX4_isWord_44 (by decide) (fun c10 => ?_) (fun c10 => ?_)
        · have hf := if_p c10 hf
          refine lv_iinc (v := x2_20 + 1) (lv' := [(2, .int (x2_20 + 1)), (0, .ref ta), (1, .ref (adK wi))]) hx hb dX4_isWord_49 hl (k := 0) rfl rfl (by decide) rfl (fun ls hl => ?_)
          refine lv_goto (tgt := 20) hx hb dX4_isWord_52 (by decide) ?_
          exact ih (x2_20 + 1) hf H locs ls hP hD hS (lv_sub hl [0, 1, 2] rfl)
        · have hf := if_n c10 hf
          refine lv_iconst (v := 0) hx hb dX4_isWord_47 (by decide) ?_
          have h1 := Option.some.inj hf
          subst h1
          rw [hQ]
          exact W.zret (v := 0) (ty := .boolean) hx hb hr rfl (fun t ht hW => qEnd hP hS ht) hS.2.2 dX4_isWord_48
  unfold f_X4_isWord at hf
  refine lv_aload_n hx hb dX4_isWord_0 rfl (lv_at hl 0 rfl) ?_
  refine va_get (D := D) (ci := 4) (v := .int tte) (C := RX4) (T := TX4) (N := 7) hx hb hts w0 hown hK hP 0 rfl rfl 4 (by decide) w1 (fun _ h9 => h9) rfl dX4_isWord_1 ?_
  refine lv_aload_n hx hb dX4_isWord_4 rfl (lv_at hl 0 rfl) ?_
  refine va_get (D := D) (ci := 4) (v := .int tts) (C := RX4) (T := TX4) (N := 7) hx hb hts w0 hown hK hP 0 rfl rfl 3 (by decide) w2 (fun _ h9 => h9) rfl dX4_isWord_5 ?_
  refine lv_isub hx hb dX4_isWord_8 ?_
  refine lv_aload_n hx hb dX4_isWord_9 rfl (lv_at hl 1 rfl) ?_
  obtain ⟨r1, hc2, hf⟩ := bd_inv hf
  refine xcV (As := []) (rest := [.int (tte - tts)]) (ws' := [(ta, .inr (4, [.ref tb, .int tln, .int tcl, .int tts, .int tte, .int tam, .ref tc])), (tb, .inl (cC, 200, .inl tlt)), (tc, .inl (cI, 4, .inl tsv))]) ⟨hx, hb, hml, hown, hts⟩ (c_J0_length_8abf5 l D B adK adV cC cF cI cZ cM cS wi hwi r1 hc2) (cwV 0 hts gX4_isWord_J0_length_8abf5 rfl rfl rfl (by decide +kernel) ⟨Nat.le_of_ble_eq_true rfl, Nat.le_of_ble_eq_true rfl⟩) (vk_recv hSt hwi hS) hK hP hD hS hB hE [] rfl rfl rfl rfl rfl hl.1 rfl (Nat.le_of_ble_eq_true rfl) dX4_isWord_10 ⟨Nat.le_of_ble_eq_true rfl, Nat.le_of_ble_eq_true rfl⟩ (fun H locs hP hD hS => ?_)
  refine W.eq (g2 := F0 m 13 ls [.int r1, .int (tte - tts)]) rfl ?_
  refine lv_icmp_eq (tgt := 18) hx hb dX4_isWord_13 (by decide) (fun c3 => ?_) (fun c3 => ?_)
  · have hf := if_p c3 hf
    refine lv_iconst (v := 0) hx hb dX4_isWord_18 (by decide) ?_
    refine lv_istore_n (lv' := [(2, .int 0), (0, .ref ta), (1, .ref (adK wi))]) hx hb dX4_isWord_19 rfl hl (by decide) rfl (fun ls hl => ?_)
    exact L20 1000 0 hf H locs ls hP hD hS (lv_sub hl [0, 1, 2] rfl)
  · have hf := if_n c3 hf
    refine lv_iconst (v := 0) hx hb dX4_isWord_16 (by decide) ?_
    have h1 := Option.some.inj hf
    subst h1
    rw [hQ]
    exact W.zret (v := 0) (ty := .boolean) hx hb hr rfl (fun t ht hW => qEnd hP hS ht) hS.2.2 dX4_isWord_17
set_option maxRecDepth 100000 in
set_option maxHeartbeats 4000000 in
theorem c_X4_numberHere (l : Launch) (D : va_G) (B : Nat) (adK adV : Nat → Nat) (cC cF cI cZ cM cS : ClassId) (ta : Nat) (tb : Nat) (tln : Int32) (tcl : Int32) (tts : Int32) (tte : Int32) (tam : Int32) (tc : Nat) (tlt : Nat → Int32) (tsv : Nat → Int32) (zz : Int32) (hf : f_X4_numberHere tts tte tlt = some zz) : Ct l yX4_numberHere wsX4_numberHere { frames := 0, cells := 0, slots := 0, locals := 0 } D B adK adV (tysX cC cF cI cZ cM cS) [.ref ta] [(ta, .inr (4, [.ref tb, .int tln, .int tcl, .int tts, .int tte, .int tam, .ref tc])), (tb, .inl (cC, 200, .inl tlt)), (tc, .inl (cI, 4, .inl tsv))] [(ta, .inr (4, [.ref tb, .int tln, .int tcl, .int tts, .int tte, .int tam, .ref tc])), (tb, .inl (cC, 200, .inl tlt)), (tc, .inl (cI, 4, .inl tsv))] (some (.int zz)) := by
  refine Ct.ofW (cc := cX4_numberHere) (maxL := 3) (ret := (some .int)) (by decide) rfl (Nat.le_of_ble_eq_true rfl) ?_
  intro p e s m args below meth c hx hb hr hml hts hown hlocks hnm hK hE A Q hQ hB H locs ls hP hD hS hl
  have hl : lv_has ls 3 [(0, .ref ta)] := hl
  have w0 : ∀ w ∈ u_ws RX4 TX4 7, w ∈ wsX4_numberHere := by decide +kernel
  have w1 := hts (.fieldLink RX4 19 "MotionStates$Text" "tokenEnd" "I") (by decide +kernel)
  have w2 := hts (.fieldLink RX4 33 "MotionStates$Text" "tokenStart" "I") (by decide +kernel)
  have w3 := hts (.fieldLink RX4 9 "MotionStates$Text" "letters" "[C") (by decide +kernel)
  unfold f_X4_numberHere at hf
  refine lv_aload_n hx hb dX4_numberHere_0 rfl (lv_at hl 0 rfl) ?_
  refine va_get (D := D) (ci := 4) (v := .int tte) (C := RX4) (T := TX4) (N := 7) hx hb hts w0 hown hK hP 0 rfl rfl 4 (by decide) w1 (fun _ h9 => h9) rfl dX4_numberHere_1 ?_
  refine lv_aload_n hx hb dX4_numberHere_4 rfl (lv_at hl 0 rfl) ?_
  refine va_get (D := D) (ci := 4) (v := .int tts) (C := RX4) (T := TX4) (N := 7) hx hb hts w0 hown hK hP 0 rfl rfl 3 (by decide) w2 (fun _ h9 => h9) rfl dX4_numberHere_5 ?_
  refine lv_isub hx hb dX4_numberHere_8 ?_
  refine lv_istore_n (lv' := [(1, .int (tte - tts)), (0, .ref ta)]) hx hb dX4_numberHere_9 rfl hl (by decide) rfl (fun ls hl => ?_)
  refine lv_iload_n hx hb dX4_numberHere_10 rfl (lv_at hl 0 rfl) ?_
  refine lv_iconst (v := 1) hx hb dX4_numberHere_11 (by decide) ?_
  refine lv_icmp_lt (tgt := 20) hx hb dX4_numberHere_12 (by decide) (fun c1 => ?_) (fun c1 => ?_)
  · have hf := if_p c1 hf
    refine lv_iconst (v := (-1)) hx hb dX4_numberHere_20 (by decide) ?_
    have h1 := Option.some.inj hf
    subst h1
    rw [hQ]
    exact W.iret (v := (-1)) hx hb hr (fun t ht hW => qEnd hP hS ht) hS.2.2 dX4_numberHere_21
  · have hf := if_n c1 hf
    refine lv_iload_n hx hb dX4_numberHere_15 rfl (lv_at hl 0 rfl) ?_
    refine lv_iconst (v := 2) hx hb dX4_numberHere_16 (by decide) ?_
    refine lv_icmp_le (tgt := 22) hx hb dX4_numberHere_17 (by decide) (fun c2 => ?_) (fun c2 => ?_)
    · have hf := if_p c2 hf
      refine lv_aload_n hx hb dX4_numberHere_22 rfl (lv_at hl 1 rfl) ?_
      refine va_get (D := D) (ci := 4) (v := .ref tb) (C := RX4) (T := TX4) (N := 7) hx hb hts w0 hown hK hP 0 rfl rfl 0 (by decide) w3 (fun _ h9 => h9) rfl dX4_numberHere_23 ?_
      refine lv_aload_n hx hb dX4_numberHere_26 rfl (lv_at hl 1 rfl) ?_
      refine va_get (D := D) (ci := 4) (v := .int tts) (C := RX4) (T := TX4) (N := 7) hx hb hts w0 hown hK hP 0 rfl rfl 3 (by decide) w2 (fun _ h9 => h9) rfl dX4_numberHere_27 ?_
      obtain ⟨g3, hf⟩ := gd_inv hf
      refine va_cald hx hb hK hP 1 0 rfl rfl g3 dX4_numberHere_30 ?_
      refine lv_istore_n (lv' := [(2, .int (tlt tts.toNatClampNeg)), (1, .int (tte - tts)), (0, .ref ta)]) hx hb dX4_numberHere_31 rfl hl (by decide) rfl (fun ls hl => ?_)
      refine lv_iload_n hx hb dX4_numberHere_32 rfl (lv_at hl 0 rfl) ?_
      refine lv_bipush (v := 48) hx hb dX4_numberHere_33 (by decide) ?_
      refine lv_icmp_lt (tgt := 44) hx hb dX4_numberHere_35 (by decide) (fun c4 => ?_) (fun c4 => ?_)
      · have hf := if_p c4 hf
        refine lv_iconst (v := (-1)) hx hb dX4_numberHere_44 (by decide) ?_
        have h1 := Option.some.inj hf
        subst h1
        rw [hQ]
        exact W.iret (v := (-1)) hx hb hr (fun t ht hW => qEnd hP hS ht) hS.2.2 dX4_numberHere_45
      · have hf := if_n c4 hf
        refine lv_iload_n hx hb dX4_numberHere_38 rfl (lv_at hl 0 rfl) ?_
        refine lv_bipush (v := 57) hx hb dX4_numberHere_39 (by decide) ?_
        refine lv_icmp_le (tgt := 46) hx hb dX4_numberHere_41 (by decide) (fun c5 => ?_) (fun c5 => ?_)
        · have hf := if_p c5 hf
          refine lv_iload_n hx hb dX4_numberHere_46 rfl (lv_at hl 1 rfl) ?_
          refine lv_iconst (v := 1) hx hb dX4_numberHere_47 (by decide) ?_
          refine lv_icmp_ne (tgt := 58) hx hb dX4_numberHere_48 (by decide) (fun c6 => ?_) (fun c6 => ?_)
          · have hf := if_n c6 hf
            refine lv_iload_n hx hb dX4_numberHere_58 rfl (lv_at hl 0 rfl) ?_
            refine lv_bipush (v := 48) hx hb dX4_numberHere_59 (by decide) ?_
            refine lv_isub hx hb dX4_numberHere_61 ?_
            refine lv_bipush (v := 10) hx hb dX4_numberHere_62 (by decide) ?_
            refine lv_imul hx hb dX4_numberHere_64 ?_
            refine lv_aload_n hx hb dX4_numberHere_65 rfl (lv_at hl 2 rfl) ?_
            refine va_get (D := D) (ci := 4) (v := .ref tb) (C := RX4) (T := TX4) (N := 7) hx hb hts w0 hown hK hP 0 rfl rfl 0 (by decide) w3 (fun _ h9 => h9) rfl dX4_numberHere_66 ?_
            refine lv_aload_n hx hb dX4_numberHere_69 rfl (lv_at hl 2 rfl) ?_
            refine va_get (D := D) (ci := 4) (v := .int tts) (C := RX4) (T := TX4) (N := 7) hx hb hts w0 hown hK hP 0 rfl rfl 3 (by decide) w2 (fun _ h9 => h9) rfl dX4_numberHere_70 ?_
            refine lv_iconst (v := 1) hx hb dX4_numberHere_73 (by decide) ?_
            refine lv_iadd hx hb dX4_numberHere_74 ?_
            obtain ⟨g7, hf⟩ := gd_inv hf
            refine va_cald hx hb hK hP 1 0 rfl rfl g7 dX4_numberHere_75 ?_
            refine lv_iadd hx hb dX4_numberHere_76 ?_
            refine lv_bipush (v := 48) hx hb dX4_numberHere_77 (by decide) ?_
            refine lv_isub hx hb dX4_numberHere_79 ?_
            have h1 := Option.some.inj hf
            subst h1
            rw [hQ]
            exact W.iret (v := (((((tlt tts.toNatClampNeg) - 48) * 10) + (tlt ((tts + 1).toNatClampNeg))) - 48)) hx hb hr (fun t ht hW => qEnd hP hS ht) hS.2.2 dX4_numberHere_80
          · have hf := if_p c6 hf
            refine lv_iload_n hx hb dX4_numberHere_51 rfl (lv_at hl 0 rfl) ?_
            refine lv_bipush (v := 48) hx hb dX4_numberHere_52 (by decide) ?_
            refine lv_isub hx hb dX4_numberHere_54 ?_
            refine lv_goto (tgt := 80) hx hb dX4_numberHere_55 (by decide) ?_
            have h1 := Option.some.inj hf
            subst h1
            rw [hQ]
            exact W.iret (v := ((tlt tts.toNatClampNeg) - 48)) hx hb hr (fun t ht hW => qEnd hP hS ht) hS.2.2 dX4_numberHere_80
        · have hf := if_n c5 hf
          refine lv_iconst (v := (-1)) hx hb dX4_numberHere_44 (by decide) ?_
          have h1 := Option.some.inj hf
          subst h1
          rw [hQ]
          exact W.iret (v := (-1)) hx hb hr (fun t ht hW => qEnd hP hS ht) hS.2.2 dX4_numberHere_45
    · have hf := if_n c2 hf
      refine lv_iconst (v := (-1)) hx hb dX4_numberHere_20 (by decide) ?_
      have h1 := Option.some.inj hf
      subst h1
      rw [hQ]
      exact W.iret (v := (-1)) hx hb hr (fun t ht hW => qEnd hP hS ht) hS.2.2 dX4_numberHere_21
set_option maxRecDepth 100000 in
set_option maxHeartbeats 4000000 in
theorem c_X4_advance (l : Launch) (D : va_G) (B : Nat) (adK adV : Nat → Nat) (cC cF cI cZ cM cS : ClassId) (ta : Nat) (tb : Nat) (tln : Int32) (tcl : Int32) (tts : Int32) (tte : Int32) (tam : Int32) (tc : Nat) (tlt : Nat → Int32) (tsv : Nat → Int32) (zz : Int32 × Int32) (hf : f_X4_advance tln tte tlt = some zz) : Ct l yX4_advance wsX4_advance { frames := 0, cells := 0, slots := 0, locals := 0 } D B adK adV (tysX cC cF cI cZ cM cS) [.ref ta] [(ta, .inr (4, [.ref tb, .int tln, .int tcl, .int tts, .int tte, .int tam, .ref tc])), (tb, .inl (cC, 200, .inl tlt)), (tc, .inl (cI, 4, .inl tsv))] [(ta, .inr (4, [.ref tb, .int tln, .int tcl, .int zz.1, .int zz.2, .int tam, .ref tc])), (tb, .inl (cC, 200, .inl tlt)), (tc, .inl (cI, 4, .inl tsv))] none := by
  refine Ct.ofW (cc := cX4_advance) (maxL := 5) (ret := none) (by decide) rfl (Nat.le_of_ble_eq_true rfl) ?_
  intro p e s m args below meth c hx hb hr hml hts hown hlocks hnm hK hE A Q hQ hB H locs ls hP hD hS hl
  have hl : lv_has ls 5 [(0, .ref ta)] := hl
  have w0 : ∀ w ∈ u_ws RX4 TX4 7, w ∈ wsX4_advance := by decide +kernel
  have w1 := hts (.fieldLink RX4 19 "MotionStates$Text" "tokenEnd" "I") (by decide +kernel)
  have w2 := hts (.fieldLink RX4 33 "MotionStates$Text" "tokenStart" "I") (by decide +kernel)
  have w3 := hts (.fieldLink RX4 139 "MotionStates$Text" "length" "I") (by decide +kernel)
  have w4 := hts (.fieldLink RX4 9 "MotionStates$Text" "letters" "[C") (by decide +kernel)
  have L8 : ∀ (n : Nat) (tts_8 : Int32) (oo : Int32), f_X4_advance_L8 tln tlt n tts_8 = some oo → ∀ (H : Heap) (locs : List Loc) (ls : Array Slot), va_P D vwCl [(ta, .inr (4, [.ref tb, .int tln, .int tcl, .int tts_8, .int tte, .int tam, .ref tc])), (tb, .inl (cC, 200, .inl tlt)), (tc, .inl (cI, 4, .inl tsv))] H → va_D A [(ta, .inr (4, [.ref tb, .int tln, .int tcl, .int tts_8, .int tte, .int tam, .ref tc])), (tb, .inl (cC, 200, .inl tlt)), (tc, .inl (cI, 4, .inl tsv))] → va_S A s.heap H locs → lv_has ls 5 [(0, .ref ta)] → (∀ (H : Heap) (locs : List Loc) (ls : Array Slot), va_P D vwCl [(ta, .inr (4, [.ref tb, .int tln, .int tcl, .int oo, .int tte, .int tam, .ref tc])), (tb, .inl (cC, 200, .inl tlt)), (tc, .inl (cI, 4, .inl tsv))] H → va_D A [(ta, .inr (4, [.ref tb, .int tln, .int tcl, .int oo, .int tte, .int tam, .ref tc])), (tb, .inl (cC, 200, .inl tlt)), (tc, .inl (cI, 4, .inl tsv))] → va_S A s.heap H locs → lv_has ls 5 [(0, .ref ta)] → W p l e { frames := 0, cells := 0, slots := 0, locals := 0 } s m args below meth c H locs 0 0 Q (F0 m 46 ls [])) → W p l e { frames := 0, cells := 0, slots := 0, locals := 0 } s m args below meth c H locs 0 0 Q (F0 m 8 ls []) := by
    intro n
    induction n with
    | zero => intro tts_8 oo hf; exact absurd hf (by simp [f_X4_advance_L8])
    | succ n ih =>
      intro tts_8 oo hf H locs ls hP hD hS hl kk
      rw [f_X4_advance_L8] at hf
      refine lv_aload_n hx hb dX4_advance_8 rfl (lv_at hl 0 rfl) ?_
      refine va_get (D := D) (ci := 4) (v := .int tts_8) (C := RX4) (T := TX4) (N := 7) hx hb hts w0 hown hK hP 0 rfl rfl 3 (by decide) w2 (fun _ h9 => h9) rfl dX4_advance_9 ?_
      refine lv_aload_n hx hb dX4_advance_12 rfl (lv_at hl 0 rfl) ?_
      refine va_get (D := D) (ci := 4) (v := .int tln) (C := RX4) (T := TX4) (N := 7) hx hb hts w0 hown hK hP 0 rfl rfl 1 (by decide) w3 (fun _ h9 => h9) rfl dX4_advance_13 ?_
      refine lv_icmp_ge (tgt := 46) hx hb dX4_advance_16 (by decide) (fun c1 => ?_) (fun c1 => ?_)
      · have hf := if_p c1 hf
        have h1 := Option.some.inj hf
        subst h1
        exact kk H locs ls hP hD hS (lv_sub hl [0] rfl)
      · have hf := if_n c1 hf
        refine lv_aload_n hx hb dX4_advance_19 rfl (lv_at hl 0 rfl) ?_
        refine va_get (D := D) (ci := 4) (v := .ref tb) (C := RX4) (T := TX4) (N := 7) hx hb hts w0 hown hK hP 0 rfl rfl 0 (by decide) w4 (fun _ h9 => h9) rfl dX4_advance_20 ?_
        refine lv_aload_n hx hb dX4_advance_23 rfl (lv_at hl 0 rfl) ?_
        refine va_get (D := D) (ci := 4) (v := .int tts_8) (C := RX4) (T := TX4) (N := 7) hx hb hts w0 hown hK hP 0 rfl rfl 3 (by decide) w2 (fun _ h9 => h9) rfl dX4_advance_24 ?_
        obtain ⟨g2, hf⟩ := gd_inv hf
        refine va_cald hx hb hK hP 1 0 rfl rfl g2 dX4_advance_27 ?_
        refine lv_bipush (v := 32) hx hb dX4_advance_28 (by decide) ?_
        refine lv_icmp_ne (tgt := 46) hx hb dX4_advance_30 (by decide) (fun c3 => ?_) (fun c3 => ?_)
        · have hf := if_n c3 hf
          have h1 := Option.some.inj hf
          subst h1
          exact kk H locs ls hP hD hS (lv_sub hl [0] rfl)
        · have hf := if_p c3 hf
          refine lv_aload_n hx hb dX4_advance_33 rfl (lv_at hl 0 rfl) ?_
          refine lv_dup hx hb dX4_advance_34 rfl ?_
          refine va_get (D := D) (ci := 4) (v := .int tts_8) (C := RX4) (T := TX4) (N := 7) hx hb hts w0 hown hK hP 0 rfl rfl 3 (by decide) w2 (fun _ h9 => h9) rfl dX4_advance_35 ?_
          refine lv_iconst (v := 1) hx hb dX4_advance_38 (by decide) ?_
          refine lv_iadd hx hb dX4_advance_39 ?_
          refine va_put (D := D) (ci := 4) (v := .int (tts_8 + 1)) (ty := .int) (C := RX4) (T := TX4) (N := 7) hx hb hts w0 tyX4 tyX4_ok nmX4 hown hK hP hD hS 0 rfl rfl 3 (by decide) w2 (fun _ h9 => h9) rfl (by decide +kernel) rfl rfl (Nat.le_of_ble_eq_true rfl) dX4_advance_40 (fun H locs hP hD hS => ?_)
          have hP : va_P D vwCl [(ta, .inr (4, [.ref tb, .int tln, .int tcl, .int (tts_8 + 1), .int tte, .int tam, .ref tc])), (tb, .inl (cC, 200, .inl tlt)), (tc, .inl (cI, 4, .inl tsv))] H := hP
          have hD : va_D A [(ta, .inr (4, [.ref tb, .int tln, .int tcl, .int (tts_8 + 1), .int tte, .int tam, .ref tc])), (tb, .inl (cC, 200, .inl tlt)), (tc, .inl (cI, 4, .inl tsv))] := hD
          refine lv_goto (tgt := 8) hx hb dX4_advance_43 (by decide) ?_
          exact ih (tts_8 + 1) oo hf H locs ls hP hD hS (lv_sub hl [0] rfl) kk
  have L141 : ∀ (n : Nat) (tte_141 : Int32) (x4_141 : Int32) (x3_141 : Int32) (x2_141 : Int32) (x1_141 : Int32) (tts_141 : Int32) (oo : Int32 × Int32 × Int32 × Int32 × Int32 × Int32), f_X4_advance_L141 tln tlt n tte_141 x4_141 x3_141 x2_141 x1_141 tts_141 = some oo → ∀ (H : Heap) (locs : List Loc) (ls : Array Slot), va_P D vwCl [(ta, .inr (4, [.ref tb, .int tln, .int tcl, .int tts_141, .int tte_141, .int tam, .ref tc])), (tb, .inl (cC, 200, .inl tlt)), (tc, .inl (cI, 4, .inl tsv))] H → va_D A [(ta, .inr (4, [.ref tb, .int tln, .int tcl, .int tts_141, .int tte_141, .int tam, .ref tc])), (tb, .inl (cC, 200, .inl tlt)), (tc, .inl (cI, 4, .inl tsv))] → va_S A s.heap H locs → lv_has ls 5 [(4, .int x4_141), (3, .int x3_141), (2, .int x2_141), (1, .int x1_141), (0, .ref ta)] → (∀ (H : Heap) (locs : List Loc) (ls : Array Slot), va_P D vwCl [(ta, .inr (4, [.ref tb, .int tln, .int tcl, .int oo.2.2.2.2.1, .int oo.2.2.2.2.2, .int tam, .ref tc])), (tb, .inl (cC, 200, .inl tlt)), (tc, .inl (cI, 4, .inl tsv))] H → va_D A [(ta, .inr (4, [.ref tb, .int tln, .int tcl, .int oo.2.2.2.2.1, .int oo.2.2.2.2.2, .int tam, .ref tc])), (tb, .inl (cC, 200, .inl tlt)), (tc, .inl (cI, 4, .inl tsv))] → va_S A s.heap H locs → lv_has ls 5 [(4, .int oo.1), (3, .int oo.2.1), (2, .int oo.2.2.1), (1, .int oo.2.2.2.1), (0, .ref ta)] → W p l e { frames := 0, cells := 0, slots := 0, locals := 0 } s m args below meth c H locs 0 0 Q (F0 m 192 ls [])) → W p l e { frames := 0, cells := 0, slots := 0, locals := 0 } s m args below meth c H locs 0 0 Q (F0 m 141 ls []) := by
    intro n
    induction n with
    | zero => intro tte_141 x4_141 x3_141 x2_141 x1_141 tts_141 oo hf; exact absurd hf (by simp [f_X4_advance_L141])
    | succ n ih =>
      intro tte_141 x4_141 x3_141 x2_141 x1_141 tts_141 oo hf H locs ls hP hD hS hl kk
      rw [f_X4_advance_L141] at hf
      refine lv_aload_n hx hb dX4_advance_141 rfl (lv_at hl 4 rfl) ?_
      refine va_get (D := D) (ci := 4) (v := .int tte_141) (C := RX4) (T := TX4) (N := 7) hx hb hts w0 hown hK hP 0 rfl rfl 4 (by decide) w1 (fun _ h9 => h9) rfl dX4_advance_142 ?_
      refine lv_aload_n hx hb dX4_advance_145 rfl (lv_at hl 4 rfl) ?_
      refine va_get (D := D) (ci := 4) (v := .int tln) (C := RX4) (T := TX4) (N := 7) hx hb hts w0 hown hK hP 0 rfl rfl 1 (by decide) w3 (fun _ h9 => h9) rfl dX4_advance_146 ?_
      refine lv_icmp_ge (tgt := 192) hx hb dX4_advance_149 (by decide) (fun c12 => ?_) (fun c12 => ?_)
      · have hf := if_p c12 hf
        have h1 := Option.some.inj hf
        subst h1
        exact kk H locs ls hP hD hS (lv_sub hl [0, 1, 2, 3, 4] rfl)
      · have hf := if_n c12 hf
        refine lv_aload_n hx hb dX4_advance_152 rfl (lv_at hl 4 rfl) ?_
        refine va_get (D := D) (ci := 4) (v := .ref tb) (C := RX4) (T := TX4) (N := 7) hx hb hts w0 hown hK hP 0 rfl rfl 0 (by decide) w4 (fun _ h9 => h9) rfl dX4_advance_153 ?_
        refine lv_aload_n hx hb dX4_advance_156 rfl (lv_at hl 4 rfl) ?_
        refine va_get (D := D) (ci := 4) (v := .int tte_141) (C := RX4) (T := TX4) (N := 7) hx hb hts w0 hown hK hP 0 rfl rfl 4 (by decide) w1 (fun _ h9 => h9) rfl dX4_advance_157 ?_
        obtain ⟨g13, hf⟩ := gd_inv hf
        refine va_cald hx hb hK hP 1 0 rfl rfl g13 dX4_advance_160 ?_
        refine lv_iload_n hx hb dX4_advance_161 rfl (lv_at hl 1 rfl) ?_
        refine lv_icmp_lt (tgt := 192) hx hb dX4_advance_162 (by decide) (fun c14 => ?_) (fun c14 => ?_)
        · have hf := if_p c14 hf
          have h1 := Option.some.inj hf
          subst h1
          exact kk H locs ls hP hD hS (lv_sub hl [0, 1, 2, 3, 4] rfl)
        · have hf := if_n c14 hf
          refine lv_aload_n hx hb dX4_advance_165 rfl (lv_at hl 4 rfl) ?_
          refine va_get (D := D) (ci := 4) (v := .ref tb) (C := RX4) (T := TX4) (N := 7) hx hb hts w0 hown hK hP 0 rfl rfl 0 (by decide) w4 (fun _ h9 => h9) rfl dX4_advance_166 ?_
          refine lv_aload_n hx hb dX4_advance_169 rfl (lv_at hl 4 rfl) ?_
          refine va_get (D := D) (ci := 4) (v := .int tte_141) (C := RX4) (T := TX4) (N := 7) hx hb hts w0 hown hK hP 0 rfl rfl 4 (by decide) w1 (fun _ h9 => h9) rfl dX4_advance_170 ?_
          obtain ⟨g15, hf⟩ := gd_inv hf
          refine va_cald hx hb hK hP 1 0 rfl rfl g15 dX4_advance_173 ?_
          refine lv_iload hx hb dX4_advance_174 (lv_at hl 0 rfl) ?_
          refine lv_icmp_gt (tgt := 192) hx hb dX4_advance_176 (by decide) (fun c16 => ?_) (fun c16 => ?_)
          · have hf := if_p c16 hf
            have h1 := Option.some.inj hf
            subst h1
            exact kk H locs ls hP hD hS (lv_sub hl [0, 1, 2, 3, 4] rfl)
          · have hf := if_n c16 hf
            refine lv_aload_n hx hb dX4_advance_179 rfl (lv_at hl 4 rfl) ?_
            refine lv_dup hx hb dX4_advance_180 rfl ?_
            refine va_get (D := D) (ci := 4) (v := .int tte_141) (C := RX4) (T := TX4) (N := 7) hx hb hts w0 hown hK hP 0 rfl rfl 4 (by decide) w1 (fun _ h9 => h9) rfl dX4_advance_181 ?_
            refine lv_iconst (v := 1) hx hb dX4_advance_184 (by decide) ?_
            refine lv_iadd hx hb dX4_advance_185 ?_
            refine va_put (D := D) (ci := 4) (v := .int (tte_141 + 1)) (ty := .int) (C := RX4) (T := TX4) (N := 7) hx hb hts w0 tyX4 tyX4_ok nmX4 hown hK hP hD hS 0 rfl rfl 4 (by decide) w1 (fun _ h9 => h9) rfl (by decide +kernel) rfl rfl (Nat.le_of_ble_eq_true rfl) dX4_advance_186 (fun H locs hP hD hS => ?_)
            have hP : va_P D vwCl [(ta, .inr (4, [.ref tb, .int tln, .int tcl, .int tts_141, .int (tte_141 + 1), .int tam, .ref tc])), (tb, .inl (cC, 200, .inl tlt)), (tc, .inl (cI, 4, .inl tsv))] H := hP
            have hD : va_D A [(ta, .inr (4, [.ref tb, .int tln, .int tcl, .int tts_141, .int (tte_141 + 1), .int tam, .ref tc])), (tb, .inl (cC, 200, .inl tlt)), (tc, .inl (cI, 4, .inl tsv))] := hD
            refine lv_goto (tgt := 141) hx hb dX4_advance_189 (by decide) ?_
            exact ih (tte_141 + 1) x4_141 x3_141 x2_141 x1_141 tts_141 oo hf H locs ls hP hD hS (lv_sub hl [0, 1, 2, 3, 4] rfl) kk
  unfold f_X4_advance at hf
  refine lv_aload_n hx hb dX4_advance_0 rfl (lv_at hl 0 rfl) ?_
  refine lv_aload_n hx hb dX4_advance_1 rfl (lv_at hl 0 rfl) ?_
  refine va_get (D := D) (ci := 4) (v := .int tte) (C := RX4) (T := TX4) (N := 7) hx hb hts w0 hown hK hP 0 rfl rfl 4 (by decide) w1 (fun _ h9 => h9) rfl dX4_advance_2 ?_
  refine va_put (D := D) (ci := 4) (v := .int tte) (ty := .int) (C := RX4) (T := TX4) (N := 7) hx hb hts w0 tyX4 tyX4_ok nmX4 hown hK hP hD hS 0 rfl rfl 3 (by decide) w2 (fun _ h9 => h9) rfl (by decide +kernel) rfl rfl (Nat.le_of_ble_eq_true rfl) dX4_advance_5 (fun H locs hP hD hS => ?_)
  have hP : va_P D vwCl [(ta, .inr (4, [.ref tb, .int tln, .int tcl, .int tte, .int tte, .int tam, .ref tc])), (tb, .inl (cC, 200, .inl tlt)), (tc, .inl (cI, 4, .inl tsv))] H := hP
  have hD : va_D A [(ta, .inr (4, [.ref tb, .int tln, .int tcl, .int tte, .int tte, .int tam, .ref tc])), (tb, .inl (cC, 200, .inl tlt)), (tc, .inl (cI, 4, .inl tsv))] := hD
  obtain ⟨q4, hq47, hf⟩ := bd_inv hf
  refine L8 1000 tte q4 hq47 H locs ls hP hD hS (lv_sub hl [0] rfl) (fun H locs ls hP hD hS hl => ?_)
  have hP : va_P D vwCl [(ta, .inr (4, [.ref tb, .int tln, .int tcl, .int q4, .int tte, .int tam, .ref tc])), (tb, .inl (cC, 200, .inl tlt)), (tc, .inl (cI, 4, .inl tsv))] H := hP
  have hD : va_D A [(ta, .inr (4, [.ref tb, .int tln, .int tcl, .int q4, .int tte, .int tam, .ref tc])), (tb, .inl (cC, 200, .inl tlt)), (tc, .inl (cI, 4, .inl tsv))] := hD
  have hl : lv_has ls 5 [(0, .ref ta)] := hl
  refine lv_aload_n hx hb dX4_advance_46 rfl (lv_at hl 0 rfl) ?_
  refine lv_aload_n hx hb dX4_advance_47 rfl (lv_at hl 0 rfl) ?_
  refine va_get (D := D) (ci := 4) (v := .int q4) (C := RX4) (T := TX4) (N := 7) hx hb hts w0 hown hK hP 0 rfl rfl 3 (by decide) w2 (fun _ h9 => h9) rfl dX4_advance_48 ?_
  refine va_put (D := D) (ci := 4) (v := .int q4) (ty := .int) (C := RX4) (T := TX4) (N := 7) hx hb hts w0 tyX4 tyX4_ok nmX4 hown hK hP hD hS 0 rfl rfl 4 (by decide) w1 (fun _ h9 => h9) rfl (by decide +kernel) rfl rfl (Nat.le_of_ble_eq_true rfl) dX4_advance_51 (fun H locs hP hD hS => ?_)
  have hP : va_P D vwCl [(ta, .inr (4, [.ref tb, .int tln, .int tcl, .int q4, .int q4, .int tam, .ref tc])), (tb, .inl (cC, 200, .inl tlt)), (tc, .inl (cI, 4, .inl tsv))] H := hP
  have hD : va_D A [(ta, .inr (4, [.ref tb, .int tln, .int tcl, .int q4, .int q4, .int tam, .ref tc])), (tb, .inl (cC, 200, .inl tlt)), (tc, .inl (cI, 4, .inl tsv))] := hD
  refine lv_aload_n hx hb dX4_advance_54 rfl (lv_at hl 0 rfl) ?_
  refine va_get (D := D) (ci := 4) (v := .int q4) (C := RX4) (T := TX4) (N := 7) hx hb hts w0 hown hK hP 0 rfl rfl 3 (by decide) w2 (fun _ h9 => h9) rfl dX4_advance_55 ?_
  refine lv_aload_n hx hb dX4_advance_58 rfl (lv_at hl 0 rfl) ?_
  refine va_get (D := D) (ci := 4) (v := .int tln) (C := RX4) (T := TX4) (N := 7) hx hb hts w0 hown hK hP 0 rfl rfl 1 (by decide) w3 (fun _ h9 => h9) rfl dX4_advance_59 ?_
  refine lv_icmp_lt (tgt := 66) hx hb dX4_advance_62 (by decide) (fun c5 => ?_) (fun c5 => ?_)
  · have hf := if_p c5 hf
    refine lv_aload_n hx hb dX4_advance_66 rfl (lv_at hl 0 rfl) ?_
    refine va_get (D := D) (ci := 4) (v := .ref tb) (C := RX4) (T := TX4) (N := 7) hx hb hts w0 hown hK hP 0 rfl rfl 0 (by decide) w4 (fun _ h9 => h9) rfl dX4_advance_67 ?_
    refine lv_aload_n hx hb dX4_advance_70 rfl (lv_at hl 0 rfl) ?_
    refine va_get (D := D) (ci := 4) (v := .int q4) (C := RX4) (T := TX4) (N := 7) hx hb hts w0 hown hK hP 0 rfl rfl 3 (by decide) w2 (fun _ h9 => h9) rfl dX4_advance_71 ?_
    obtain ⟨g6, hf⟩ := gd_inv hf
    refine va_cald hx hb hK hP 1 0 rfl rfl g6 dX4_advance_74 ?_
    refine lv_istore_n (lv' := [(1, .int (tlt q4.toNatClampNeg)), (0, .ref ta)]) hx hb dX4_advance_75 rfl hl (by decide) rfl (fun ls hl => ?_)
    refine lv_iload_n hx hb dX4_advance_76 rfl (lv_at hl 0 rfl) ?_
    refine lv_bipush (v := 48) hx hb dX4_advance_77 (by decide) ?_
    refine lv_icmp_lt (tgt := 92) hx hb dX4_advance_79 (by decide) (fun c7 => ?_) (fun c7 => ?_)
    · have hf := if_p c7 hf
      refine lv_iconst (v := 0) hx hb dX4_advance_92 (by decide) ?_
      refine lv_istore_n (lv' := [(2, .int 0), (1, .int (tlt q4.toNatClampNeg)), (0, .ref ta)]) hx hb dX4_advance_93 rfl hl (by decide) rfl (fun ls hl => ?_)
      refine lv_iload_n hx hb dX4_advance_94 rfl (lv_at hl 0 rfl) ?_
      refine lv_if_eq (tgt := 103) hx hb dX4_advance_95 (by decide) (fun c8 => ?_) (fun c8 => absurd c8 (by decide))
      refine lv_bipush (v := 97) hx hb dX4_advance_103 (by decide) ?_
      refine lv_istore_n (lv' := [(3, .int 97), (2, .int 0), (1, .int (tlt q4.toNatClampNeg)), (0, .ref ta)]) hx hb dX4_advance_105 rfl hl (by decide) rfl (fun ls hl => ?_)
      refine lv_iload_n hx hb dX4_advance_106 rfl (lv_at hl 1 rfl) ?_
      refine lv_if_eq (tgt := 115) hx hb dX4_advance_107 (by decide) (fun c9 => ?_) (fun c9 => absurd c9 (by decide))
      refine lv_bipush (v := 122) hx hb dX4_advance_115 (by decide) ?_
      refine lv_istore (lv' := [(4, .int 122), (3, .int 97), (2, .int 0), (1, .int (tlt q4.toNatClampNeg)), (0, .ref ta)]) hx hb dX4_advance_117 hl (by decide) rfl (fun ls hl => ?_)
      refine lv_aload_n hx hb dX4_advance_119 rfl (lv_at hl 4 rfl) ?_
      refine lv_dup hx hb dX4_advance_120 rfl ?_
      refine va_get (D := D) (ci := 4) (v := .int q4) (C := RX4) (T := TX4) (N := 7) hx hb hts w0 hown hK hP 0 rfl rfl 4 (by decide) w1 (fun _ h9 => h9) rfl dX4_advance_121 ?_
      refine lv_iconst (v := 1) hx hb dX4_advance_124 (by decide) ?_
      refine lv_iadd hx hb dX4_advance_125 ?_
      refine va_put (D := D) (ci := 4) (v := .int (q4 + 1)) (ty := .int) (C := RX4) (T := TX4) (N := 7) hx hb hts w0 tyX4 tyX4_ok nmX4 hown hK hP hD hS 0 rfl rfl 4 (by decide) w1 (fun _ h9 => h9) rfl (by decide +kernel) rfl rfl (Nat.le_of_ble_eq_true rfl) dX4_advance_126 (fun H locs hP hD hS => ?_)
      have hP : va_P D vwCl [(ta, .inr (4, [.ref tb, .int tln, .int tcl, .int q4, .int (q4 + 1), .int tam, .ref tc])), (tb, .inl (cC, 200, .inl tlt)), (tc, .inl (cI, 4, .inl tsv))] H := hP
      have hD : va_D A [(ta, .inr (4, [.ref tb, .int tln, .int tcl, .int q4, .int (q4 + 1), .int tam, .ref tc])), (tb, .inl (cC, 200, .inl tlt)), (tc, .inl (cI, 4, .inl tsv))] := hD
      refine lv_iload_n hx hb dX4_advance_129 rfl (lv_at hl 3 rfl) ?_
      refine lv_iload_n hx hb dX4_advance_130 rfl (lv_at hl 1 rfl) ?_
      refine lv_icmp_lt (tgt := 140) hx hb dX4_advance_131 (by decide) (fun c10 => ?_) (fun c10 => ?_)
      · have hf := if_p c10 hf
        have h1 := Option.some.inj hf
        subst h1
        rw [hQ]
        exact W.vret hx hb hr (fun t ht hW => qEnd hP hS ht) hS.2.2 dX4_advance_140
      · have hf := if_n c10 hf
        refine lv_iload_n hx hb dX4_advance_134 rfl (lv_at hl 3 rfl) ?_
        refine lv_iload hx hb dX4_advance_135 (lv_at hl 0 rfl) ?_
        refine lv_icmp_le (tgt := 141) hx hb dX4_advance_137 (by decide) (fun c11 => ?_) (fun c11 => ?_)
        · have hf := if_p c11 hf
          obtain ⟨⟨q17, q18, q19, q20, q21, q22⟩, hq23, hf⟩ := bd_inv hf
          refine L141 1000 (q4 + 1) 122 97 0 (tlt q4.toNatClampNeg) q4 (q17, q18, q19, q20, q21, q22) hq23 H locs ls hP hD hS (lv_sub hl [0, 1, 2, 3, 4] rfl) (fun H locs ls hP hD hS hl => ?_)
          have hP : va_P D vwCl [(ta, .inr (4, [.ref tb, .int tln, .int tcl, .int q21, .int q22, .int tam, .ref tc])), (tb, .inl (cC, 200, .inl tlt)), (tc, .inl (cI, 4, .inl tsv))] H := hP
          have hD : va_D A [(ta, .inr (4, [.ref tb, .int tln, .int tcl, .int q21, .int q22, .int tam, .ref tc])), (tb, .inl (cC, 200, .inl tlt)), (tc, .inl (cI, 4, .inl tsv))] := hD
          have hl : lv_has ls 5 [(4, .int q17), (3, .int q18), (2, .int q19), (1, .int q20), (0, .ref ta)] := hl
          have h1 := Option.some.inj hf
          subst h1
          rw [hQ]
          exact W.vret hx hb hr (fun t ht hW => qEnd hP hS ht) hS.2.2 dX4_advance_192
        · have hf := if_n c11 hf
          have h1 := Option.some.inj hf
          subst h1
          rw [hQ]
          exact W.vret hx hb hr (fun t ht hW => qEnd hP hS ht) hS.2.2 dX4_advance_140
    · have hf := if_n c7 hf
      refine lv_iload_n hx hb dX4_advance_82 rfl (lv_at hl 0 rfl) ?_
      refine lv_bipush (v := 57) hx hb dX4_advance_83 (by decide) ?_
      refine lv_icmp_gt (tgt := 92) hx hb dX4_advance_85 (by decide) (fun c24 => ?_) (fun c24 => ?_)
      · have hf := if_p c24 hf
        refine lv_iconst (v := 0) hx hb dX4_advance_92 (by decide) ?_
        refine lv_istore_n (lv' := [(2, .int 0), (1, .int (tlt q4.toNatClampNeg)), (0, .ref ta)]) hx hb dX4_advance_93 rfl hl (by decide) rfl (fun ls hl => ?_)
        refine lv_iload_n hx hb dX4_advance_94 rfl (lv_at hl 0 rfl) ?_
        refine lv_if_eq (tgt := 103) hx hb dX4_advance_95 (by decide) (fun c25 => ?_) (fun c25 => absurd c25 (by decide))
        refine lv_bipush (v := 97) hx hb dX4_advance_103 (by decide) ?_
        refine lv_istore_n (lv' := [(3, .int 97), (2, .int 0), (1, .int (tlt q4.toNatClampNeg)), (0, .ref ta)]) hx hb dX4_advance_105 rfl hl (by decide) rfl (fun ls hl => ?_)
        refine lv_iload_n hx hb dX4_advance_106 rfl (lv_at hl 1 rfl) ?_
        refine lv_if_eq (tgt := 115) hx hb dX4_advance_107 (by decide) (fun c26 => ?_) (fun c26 => absurd c26 (by decide))
        refine lv_bipush (v := 122) hx hb dX4_advance_115 (by decide) ?_
        refine lv_istore (lv' := [(4, .int 122), (3, .int 97), (2, .int 0), (1, .int (tlt q4.toNatClampNeg)), (0, .ref ta)]) hx hb dX4_advance_117 hl (by decide) rfl (fun ls hl => ?_)
        refine lv_aload_n hx hb dX4_advance_119 rfl (lv_at hl 4 rfl) ?_
        refine lv_dup hx hb dX4_advance_120 rfl ?_
        refine va_get (D := D) (ci := 4) (v := .int q4) (C := RX4) (T := TX4) (N := 7) hx hb hts w0 hown hK hP 0 rfl rfl 4 (by decide) w1 (fun _ h9 => h9) rfl dX4_advance_121 ?_
        refine lv_iconst (v := 1) hx hb dX4_advance_124 (by decide) ?_
        refine lv_iadd hx hb dX4_advance_125 ?_
        refine va_put (D := D) (ci := 4) (v := .int (q4 + 1)) (ty := .int) (C := RX4) (T := TX4) (N := 7) hx hb hts w0 tyX4 tyX4_ok nmX4 hown hK hP hD hS 0 rfl rfl 4 (by decide) w1 (fun _ h9 => h9) rfl (by decide +kernel) rfl rfl (Nat.le_of_ble_eq_true rfl) dX4_advance_126 (fun H locs hP hD hS => ?_)
        have hP : va_P D vwCl [(ta, .inr (4, [.ref tb, .int tln, .int tcl, .int q4, .int (q4 + 1), .int tam, .ref tc])), (tb, .inl (cC, 200, .inl tlt)), (tc, .inl (cI, 4, .inl tsv))] H := hP
        have hD : va_D A [(ta, .inr (4, [.ref tb, .int tln, .int tcl, .int q4, .int (q4 + 1), .int tam, .ref tc])), (tb, .inl (cC, 200, .inl tlt)), (tc, .inl (cI, 4, .inl tsv))] := hD
        refine lv_iload_n hx hb dX4_advance_129 rfl (lv_at hl 3 rfl) ?_
        refine lv_iload_n hx hb dX4_advance_130 rfl (lv_at hl 1 rfl) ?_
        refine lv_icmp_lt (tgt := 140) hx hb dX4_advance_131 (by decide) (fun c27 => ?_) (fun c27 => ?_)
        · have hf := if_p c27 hf
          have h1 := Option.some.inj hf
          subst h1
          rw [hQ]
          exact W.vret hx hb hr (fun t ht hW => qEnd hP hS ht) hS.2.2 dX4_advance_140
        · have hf := if_n c27 hf
          refine lv_iload_n hx hb dX4_advance_134 rfl (lv_at hl 3 rfl) ?_
          refine lv_iload hx hb dX4_advance_135 (lv_at hl 0 rfl) ?_
          refine lv_icmp_le (tgt := 141) hx hb dX4_advance_137 (by decide) (fun c28 => ?_) (fun c28 => ?_)
          · have hf := if_p c28 hf
            obtain ⟨⟨q29, q30, q31, q32, q33, q34⟩, hq35, hf⟩ := bd_inv hf
            refine L141 1000 (q4 + 1) 122 97 0 (tlt q4.toNatClampNeg) q4 (q29, q30, q31, q32, q33, q34) hq35 H locs ls hP hD hS (lv_sub hl [0, 1, 2, 3, 4] rfl) (fun H locs ls hP hD hS hl => ?_)
            have hP : va_P D vwCl [(ta, .inr (4, [.ref tb, .int tln, .int tcl, .int q33, .int q34, .int tam, .ref tc])), (tb, .inl (cC, 200, .inl tlt)), (tc, .inl (cI, 4, .inl tsv))] H := hP
            have hD : va_D A [(ta, .inr (4, [.ref tb, .int tln, .int tcl, .int q33, .int q34, .int tam, .ref tc])), (tb, .inl (cC, 200, .inl tlt)), (tc, .inl (cI, 4, .inl tsv))] := hD
            have hl : lv_has ls 5 [(4, .int q29), (3, .int q30), (2, .int q31), (1, .int q32), (0, .ref ta)] := hl
            have h1 := Option.some.inj hf
            subst h1
            rw [hQ]
            exact W.vret hx hb hr (fun t ht hW => qEnd hP hS ht) hS.2.2 dX4_advance_192
          · have hf := if_n c28 hf
            have h1 := Option.some.inj hf
            subst h1
            rw [hQ]
            exact W.vret hx hb hr (fun t ht hW => qEnd hP hS ht) hS.2.2 dX4_advance_140
      · have hf := if_n c24 hf
        refine lv_iconst (v := 1) hx hb dX4_advance_88 (by decide) ?_
        refine lv_goto (tgt := 93) hx hb dX4_advance_89 (by decide) ?_
        refine lv_istore_n (lv' := [(2, .int 1), (1, .int (tlt q4.toNatClampNeg)), (0, .ref ta)]) hx hb dX4_advance_93 rfl hl (by decide) rfl (fun ls hl => ?_)
        refine lv_iload_n hx hb dX4_advance_94 rfl (lv_at hl 0 rfl) ?_
        refine lv_if_eq (tgt := 103) hx hb dX4_advance_95 (by decide) (fun c36 => absurd c36 (by decide)) (fun c36 => ?_)
        refine lv_bipush (v := 48) hx hb dX4_advance_98 (by decide) ?_
        refine lv_goto (tgt := 105) hx hb dX4_advance_100 (by decide) ?_
        refine lv_istore_n (lv' := [(3, .int 48), (2, .int 1), (1, .int (tlt q4.toNatClampNeg)), (0, .ref ta)]) hx hb dX4_advance_105 rfl hl (by decide) rfl (fun ls hl => ?_)
        refine lv_iload_n hx hb dX4_advance_106 rfl (lv_at hl 1 rfl) ?_
        refine lv_if_eq (tgt := 115) hx hb dX4_advance_107 (by decide) (fun c37 => absurd c37 (by decide)) (fun c37 => ?_)
        refine lv_bipush (v := 57) hx hb dX4_advance_110 (by decide) ?_
        refine lv_goto (tgt := 117) hx hb dX4_advance_112 (by decide) ?_
        refine lv_istore (lv' := [(4, .int 57), (3, .int 48), (2, .int 1), (1, .int (tlt q4.toNatClampNeg)), (0, .ref ta)]) hx hb dX4_advance_117 hl (by decide) rfl (fun ls hl => ?_)
        refine lv_aload_n hx hb dX4_advance_119 rfl (lv_at hl 4 rfl) ?_
        refine lv_dup hx hb dX4_advance_120 rfl ?_
        refine va_get (D := D) (ci := 4) (v := .int q4) (C := RX4) (T := TX4) (N := 7) hx hb hts w0 hown hK hP 0 rfl rfl 4 (by decide) w1 (fun _ h9 => h9) rfl dX4_advance_121 ?_
        refine lv_iconst (v := 1) hx hb dX4_advance_124 (by decide) ?_
        refine lv_iadd hx hb dX4_advance_125 ?_
        refine va_put (D := D) (ci := 4) (v := .int (q4 + 1)) (ty := .int) (C := RX4) (T := TX4) (N := 7) hx hb hts w0 tyX4 tyX4_ok nmX4 hown hK hP hD hS 0 rfl rfl 4 (by decide) w1 (fun _ h9 => h9) rfl (by decide +kernel) rfl rfl (Nat.le_of_ble_eq_true rfl) dX4_advance_126 (fun H locs hP hD hS => ?_)
        have hP : va_P D vwCl [(ta, .inr (4, [.ref tb, .int tln, .int tcl, .int q4, .int (q4 + 1), .int tam, .ref tc])), (tb, .inl (cC, 200, .inl tlt)), (tc, .inl (cI, 4, .inl tsv))] H := hP
        have hD : va_D A [(ta, .inr (4, [.ref tb, .int tln, .int tcl, .int q4, .int (q4 + 1), .int tam, .ref tc])), (tb, .inl (cC, 200, .inl tlt)), (tc, .inl (cI, 4, .inl tsv))] := hD
        refine lv_iload_n hx hb dX4_advance_129 rfl (lv_at hl 3 rfl) ?_
        refine lv_iload_n hx hb dX4_advance_130 rfl (lv_at hl 1 rfl) ?_
        refine lv_icmp_lt (tgt := 140) hx hb dX4_advance_131 (by decide) (fun c38 => absurd c38 c7) (fun c38 => ?_)
        refine lv_iload_n hx hb dX4_advance_134 rfl (lv_at hl 3 rfl) ?_
        refine lv_iload hx hb dX4_advance_135 (lv_at hl 0 rfl) ?_
        refine lv_icmp_le (tgt := 141) hx hb dX4_advance_137 (by decide) (fun c39 => ?_) (fun c39 => ?_)
        · have hf := if_p c39 hf
          obtain ⟨⟨q40, q41, q42, q43, q44, q45⟩, hq46, hf⟩ := bd_inv hf
          refine L141 1000 (q4 + 1) 57 48 1 (tlt q4.toNatClampNeg) q4 (q40, q41, q42, q43, q44, q45) hq46 H locs ls hP hD hS (lv_sub hl [0, 1, 2, 3, 4] rfl) (fun H locs ls hP hD hS hl => ?_)
          have hP : va_P D vwCl [(ta, .inr (4, [.ref tb, .int tln, .int tcl, .int q44, .int q45, .int tam, .ref tc])), (tb, .inl (cC, 200, .inl tlt)), (tc, .inl (cI, 4, .inl tsv))] H := hP
          have hD : va_D A [(ta, .inr (4, [.ref tb, .int tln, .int tcl, .int q44, .int q45, .int tam, .ref tc])), (tb, .inl (cC, 200, .inl tlt)), (tc, .inl (cI, 4, .inl tsv))] := hD
          have hl : lv_has ls 5 [(4, .int q40), (3, .int q41), (2, .int q42), (1, .int q43), (0, .ref ta)] := hl
          have h1 := Option.some.inj hf
          subst h1
          rw [hQ]
          exact W.vret hx hb hr (fun t ht hW => qEnd hP hS ht) hS.2.2 dX4_advance_192
        · have hf := if_n c39 hf
          have h1 := Option.some.inj hf
          subst h1
          rw [hQ]
          exact W.vret hx hb hr (fun t ht hW => qEnd hP hS ht) hS.2.2 dX4_advance_140
  · have hf := if_n c5 hf
    have h1 := Option.some.inj hf
    subst h1
    rw [hQ]
    exact W.vret hx hb hr (fun t ht hW => qEnd hP hS ht) hS.2.2 dX4_advance_65
set_option maxRecDepth 100000 in
set_option maxHeartbeats 4000000 in
theorem c_X4_conditionHere (l : Launch) (D : va_G) (B : Nat) (adK adV : Nat → Nat) (cC cF cI cZ cM cS : ClassId) (ta : Nat) (tb : Nat) (tln : Int32) (tcl : Int32) (tts : Int32) (tte : Int32) (tam : Int32) (tc : Nat) (tlt : Nat → Int32) (tsv : Nat → Int32) (zz : Int32) (hf : f_X4_conditionHere tts tte tlt = some zz) : Ct l yX4_conditionHere wsX4_conditionHere { frames := 5, cells := 0, slots := 0, locals := 107 } D B adK adV (tysX cC cF cI cZ cM cS) [.ref ta] [(ta, .inr (4, [.ref tb, .int tln, .int tcl, .int tts, .int tte, .int tam, .ref tc])), (tb, .inl (cC, 200, .inl tlt)), (tc, .inl (cI, 4, .inl tsv))] [(ta, .inr (4, [.ref tb, .int tln, .int tcl, .int tts, .int tte, .int tam, .ref tc])), (tb, .inl (cC, 200, .inl tlt)), (tc, .inl (cI, 4, .inl tsv))] (some (.int zz)) := by
  refine Ct.ofW (cc := cX4_conditionHere) (maxL := 1) (ret := (some .int)) (by decide) rfl (Nat.le_of_ble_eq_true rfl) ?_
  intro p e s m args below meth c hx hb hr hml hts hown hlocks hnm hK hE A Q hQ hB H locs ls hP hD hS hl
  have hl : lv_has ls 1 [(0, .ref ta)] := hl
  unfold f_X4_conditionHere at hf
  refine lv_aload_n hx hb dX4_conditionHere_0 rfl (lv_at hl 0 rfl) ?_
  refine va_ldcS hx hb hown (hE.2.2.1 3 (by decide)) dX4_conditionHere_1 ?_
  obtain ⟨r1, hc2, hf⟩ := bd_inv hf
  refine xcV (As := [.ref (adK 3)]) (rest := []) (ws' := [(ta, .inr (4, [.ref tb, .int tln, .int tcl, .int tts, .int tte, .int tam, .ref tc])), (tb, .inl (cC, 200, .inl tlt)), (tc, .inl (cI, 4, .inl tsv))]) ⟨hx, hb, hml, hown, hts⟩ (c_X4_isWord l D B adK adV cC cF cI cZ cM cS ta tb tln tcl tts tte tam tc tlt tsv 3 (by decide) r1 hc2) (cwV 1 hts gX4_conditionHere_X4_isWord rfl rfl rfl (by decide +kernel) ⟨Nat.le_of_ble_eq_true rfl, Nat.le_of_ble_eq_true rfl⟩) (va_recv hK hP (ci := 4) (q0 := 0) rfl rfl) hK hP hD hS hB hE [0, 1, 2] rfl rfl rfl rfl rfl hl.1 rfl (Nat.le_of_ble_eq_true rfl) dX4_conditionHere_3 ⟨Nat.le_of_ble_eq_true rfl, Nat.le_of_ble_eq_true rfl⟩ (fun H locs hP hD hS => ?_)
  refine W.eq (g2 := F0 m 6 ls [.int r1]) rfl ?_
  refine lv_if_eq (tgt := 11) hx hb dX4_conditionHere_6 (by decide) (fun c3 => ?_) (fun c3 => ?_)
  · have hf := if_p c3 hf
    refine lv_aload_n hx hb dX4_conditionHere_11 rfl (lv_at hl 0 rfl) ?_
    refine va_ldcS hx hb hown (hE.2.2.1 4 (by decide)) dX4_conditionHere_12 ?_
    obtain ⟨r4, hc5, hf⟩ := bd_inv hf
    refine xcV (As := [.ref (adK 4)]) (rest := []) (ws' := [(ta, .inr (4, [.ref tb, .int tln, .int tcl, .int tts, .int tte, .int tam, .ref tc])), (tb, .inl (cC, 200, .inl tlt)), (tc, .inl (cI, 4, .inl tsv))]) ⟨hx, hb, hml, hown, hts⟩ (c_X4_isWord l D B adK adV cC cF cI cZ cM cS ta tb tln tcl tts tte tam tc tlt tsv 4 (by decide) r4 hc5) (cwV 1 hts gX4_conditionHere_X4_isWord rfl rfl rfl (by decide +kernel) ⟨Nat.le_of_ble_eq_true rfl, Nat.le_of_ble_eq_true rfl⟩) (va_recv hK hP (ci := 4) (q0 := 0) rfl rfl) hK hP hD hS hB hE [0, 1, 2] rfl rfl rfl rfl rfl hl.1 rfl (Nat.le_of_ble_eq_true rfl) dX4_conditionHere_14 ⟨Nat.le_of_ble_eq_true rfl, Nat.le_of_ble_eq_true rfl⟩ (fun H locs hP hD hS => ?_)
    refine W.eq (g2 := F0 m 17 ls [.int r4]) rfl ?_
    refine lv_if_eq (tgt := 22) hx hb dX4_conditionHere_17 (by decide) (fun c6 => ?_) (fun c6 => ?_)
    · have hf := if_p c6 hf
      refine lv_aload_n hx hb dX4_conditionHere_22 rfl (lv_at hl 0 rfl) ?_
      refine va_ldcS hx hb hown (hE.2.2.1 5 (by decide)) dX4_conditionHere_23 ?_
      obtain ⟨r7, hc8, hf⟩ := bd_inv hf
      refine xcV (As := [.ref (adK 5)]) (rest := []) (ws' := [(ta, .inr (4, [.ref tb, .int tln, .int tcl, .int tts, .int tte, .int tam, .ref tc])), (tb, .inl (cC, 200, .inl tlt)), (tc, .inl (cI, 4, .inl tsv))]) ⟨hx, hb, hml, hown, hts⟩ (c_X4_isWord l D B adK adV cC cF cI cZ cM cS ta tb tln tcl tts tte tam tc tlt tsv 5 (by decide) r7 hc8) (cwV 1 hts gX4_conditionHere_X4_isWord rfl rfl rfl (by decide +kernel) ⟨Nat.le_of_ble_eq_true rfl, Nat.le_of_ble_eq_true rfl⟩) (va_recv hK hP (ci := 4) (q0 := 0) rfl rfl) hK hP hD hS hB hE [0, 1, 2] rfl rfl rfl rfl rfl hl.1 rfl (Nat.le_of_ble_eq_true rfl) dX4_conditionHere_25 ⟨Nat.le_of_ble_eq_true rfl, Nat.le_of_ble_eq_true rfl⟩ (fun H locs hP hD hS => ?_)
      refine W.eq (g2 := F0 m 28 ls [.int r7]) rfl ?_
      refine lv_if_eq (tgt := 33) hx hb dX4_conditionHere_28 (by decide) (fun c9 => ?_) (fun c9 => ?_)
      · have hf := if_p c9 hf
        refine lv_aload_n hx hb dX4_conditionHere_33 rfl (lv_at hl 0 rfl) ?_
        refine va_ldcS hx hb hown (hE.2.2.1 6 (by decide)) dX4_conditionHere_34 ?_
        obtain ⟨r10, hc11, hf⟩ := bd_inv hf
        refine xcV (As := [.ref (adK 6)]) (rest := []) (ws' := [(ta, .inr (4, [.ref tb, .int tln, .int tcl, .int tts, .int tte, .int tam, .ref tc])), (tb, .inl (cC, 200, .inl tlt)), (tc, .inl (cI, 4, .inl tsv))]) ⟨hx, hb, hml, hown, hts⟩ (c_X4_isWord l D B adK adV cC cF cI cZ cM cS ta tb tln tcl tts tte tam tc tlt tsv 6 (by decide) r10 hc11) (cwV 1 hts gX4_conditionHere_X4_isWord rfl rfl rfl (by decide +kernel) ⟨Nat.le_of_ble_eq_true rfl, Nat.le_of_ble_eq_true rfl⟩) (va_recv hK hP (ci := 4) (q0 := 0) rfl rfl) hK hP hD hS hB hE [0, 1, 2] rfl rfl rfl rfl rfl hl.1 rfl (Nat.le_of_ble_eq_true rfl) dX4_conditionHere_36 ⟨Nat.le_of_ble_eq_true rfl, Nat.le_of_ble_eq_true rfl⟩ (fun H locs hP hD hS => ?_)
        refine W.eq (g2 := F0 m 39 ls [.int r10]) rfl ?_
        refine lv_if_eq (tgt := 46) hx hb dX4_conditionHere_39 (by decide) (fun c12 => ?_) (fun c12 => ?_)
        · have hf := if_p c12 hf
          refine lv_iconst (v := (-1)) hx hb dX4_conditionHere_46 (by decide) ?_
          have h1 := Option.some.inj hf
          subst h1
          rw [hQ]
          exact W.iret (v := (-1)) hx hb hr (fun t ht hW => qEnd hP hS ht) hS.2.2 dX4_conditionHere_47
        · have hf := if_n c12 hf
          refine lv_iconst (v := 3) hx hb dX4_conditionHere_42 (by decide) ?_
          refine lv_goto (tgt := 47) hx hb dX4_conditionHere_43 (by decide) ?_
          have h1 := Option.some.inj hf
          subst h1
          rw [hQ]
          exact W.iret (v := 3) hx hb hr (fun t ht hW => qEnd hP hS ht) hS.2.2 dX4_conditionHere_47
      · have hf := if_n c9 hf
        refine lv_iconst (v := 2) hx hb dX4_conditionHere_31 (by decide) ?_
        have h1 := Option.some.inj hf
        subst h1
        rw [hQ]
        exact W.iret (v := 2) hx hb hr (fun t ht hW => qEnd hP hS ht) hS.2.2 dX4_conditionHere_32
    · have hf := if_n c6 hf
      refine lv_iconst (v := 1) hx hb dX4_conditionHere_20 (by decide) ?_
      have h1 := Option.some.inj hf
      subst h1
      rw [hQ]
      exact W.iret (v := 1) hx hb hr (fun t ht hW => qEnd hP hS ht) hS.2.2 dX4_conditionHere_21
  · have hf := if_n c3 hf
    refine lv_iconst (v := 0) hx hb dX4_conditionHere_9 (by decide) ?_
    have h1 := Option.some.inj hf
    subst h1
    rw [hQ]
    exact W.iret (v := 0) hx hb hr (fun t ht hW => qEnd hP hS ht) hS.2.2 dX4_conditionHere_10
set_option maxRecDepth 100000 in
set_option maxHeartbeats 4000000 in
theorem c_X4_readUpTo (l : Launch) (D : va_G) (B : Nat) (adK adV : Nat → Nat) (cC cF cI cZ cM cS : ClassId) (ta : Nat) (tb : Nat) (tln : Int32) (tcl : Int32) (tts : Int32) (tte : Int32) (tam : Int32) (tc : Nat) (tlt : Nat → Int32) (tsv : Nat → Int32) (mo : Int32) (zz : Int32 × Int32 × Int32 × Int32) (hf : f_X4_readUpTo tln tts tte tam tlt mo = some zz) : Ct l yX4_readUpTo wsX4_readUpTo { frames := 1, cells := 0, slots := 0, locals := 24 } D B adK adV (tysX cC cF cI cZ cM cS) [.ref ta, .int mo] [(ta, .inr (4, [.ref tb, .int tln, .int tcl, .int tts, .int tte, .int tam, .ref tc])), (tb, .inl (cC, 200, .inl tlt)), (tc, .inl (cI, 4, .inl tsv))] [(ta, .inr (4, [.ref tb, .int tln, .int tcl, .int zz.2.1, .int zz.2.2.1, .int zz.2.2.2, .ref tc])), (tb, .inl (cC, 200, .inl tlt)), (tc, .inl (cI, 4, .inl tsv))] (some (.int zz.1)) := by
  refine Ct.ofW (cc := cX4_readUpTo) (maxL := 3) (ret := (some .boolean)) (by decide) rfl (Nat.le_of_ble_eq_true rfl) ?_
  intro p e s m args below meth c hx hb hr hml hts hown hlocks hnm hK hE A Q hQ hB H locs ls hP hD hS hl
  have hl : lv_has ls 3 [(0, .ref ta), (1, .int mo)] := hl
  have w0 : ∀ w ∈ u_ws RX4 TX4 7, w ∈ wsX4_readUpTo := by decide +kernel
  have w1 := hts (.fieldLink RX4 84 "MotionStates$Text" "amount" "I") (by decide +kernel)
  unfold f_X4_readUpTo at hf
  refine lv_aload_n hx hb dX4_readUpTo_0 rfl (lv_at hl 0 rfl) ?_
  obtain ⟨r1, hc2, hf⟩ := bd_inv hf
  refine xcV (As := []) (rest := []) (ws' := [(ta, .inr (4, [.ref tb, .int tln, .int tcl, .int tts, .int tte, .int tam, .ref tc])), (tb, .inl (cC, 200, .inl tlt)), (tc, .inl (cI, 4, .inl tsv))]) ⟨hx, hb, hml, hown, hts⟩ (c_X4_numberHere l D B adK adV cC cF cI cZ cM cS ta tb tln tcl tts tte tam tc tlt tsv  r1 hc2) (cwV 0 hts gX4_readUpTo_X4_numberHere rfl rfl rfl (by decide +kernel) ⟨Nat.le_of_ble_eq_true rfl, Nat.le_of_ble_eq_true rfl⟩) (va_recv hK hP (ci := 4) (q0 := 0) rfl rfl) hK hP hD hS hB hE [0, 1, 2] rfl rfl rfl rfl rfl hl.1 rfl (Nat.le_of_ble_eq_true rfl) dX4_readUpTo_1 ⟨Nat.le_of_ble_eq_true rfl, Nat.le_of_ble_eq_true rfl⟩ (fun H locs hP hD hS => ?_)
  refine W.eq (g2 := F0 m 4 ls [.int r1]) rfl ?_
  refine lv_istore_n (lv' := [(2, .int r1), (0, .ref ta), (1, .int mo)]) hx hb dX4_readUpTo_4 rfl hl (by decide) rfl (fun ls hl => ?_)
  refine lv_iload_n hx hb dX4_readUpTo_5 rfl (lv_at hl 0 rfl) ?_
  refine lv_if_lt (tgt := 14) hx hb dX4_readUpTo_6 (by decide) (fun c3 => ?_) (fun c3 => ?_)
  · have hf := if_p c3 hf
    refine lv_iconst (v := 0) hx hb dX4_readUpTo_14 (by decide) ?_
    have h1 := Option.some.inj hf
    subst h1
    rw [hQ]
    exact W.zret (v := 0) (ty := .boolean) hx hb hr rfl (fun t ht hW => qEnd hP hS ht) hS.2.2 dX4_readUpTo_15
  · have hf := if_n c3 hf
    refine lv_iload_n hx hb dX4_readUpTo_9 rfl (lv_at hl 0 rfl) ?_
    refine lv_iload_n hx hb dX4_readUpTo_10 rfl (lv_at hl 2 rfl) ?_
    refine lv_icmp_le (tgt := 16) hx hb dX4_readUpTo_11 (by decide) (fun c4 => ?_) (fun c4 => ?_)
    · have hf := if_p c4 hf
      refine lv_aload_n hx hb dX4_readUpTo_16 rfl (lv_at hl 1 rfl) ?_
      refine lv_iload_n hx hb dX4_readUpTo_17 rfl (lv_at hl 0 rfl) ?_
      refine va_put (D := D) (ci := 4) (v := .int r1) (ty := .int) (C := RX4) (T := TX4) (N := 7) hx hb hts w0 tyX4 tyX4_ok nmX4 hown hK hP hD hS 0 rfl rfl 5 (by decide) w1 (fun _ h9 => h9) rfl (by decide +kernel) rfl rfl (Nat.le_of_ble_eq_true rfl) dX4_readUpTo_18 (fun H locs hP hD hS => ?_)
      have hP : va_P D vwCl [(ta, .inr (4, [.ref tb, .int tln, .int tcl, .int tts, .int tte, .int r1, .ref tc])), (tb, .inl (cC, 200, .inl tlt)), (tc, .inl (cI, 4, .inl tsv))] H := hP
      have hD : va_D A [(ta, .inr (4, [.ref tb, .int tln, .int tcl, .int tts, .int tte, .int r1, .ref tc])), (tb, .inl (cC, 200, .inl tlt)), (tc, .inl (cI, 4, .inl tsv))] := hD
      refine lv_aload_n hx hb dX4_readUpTo_21 rfl (lv_at hl 1 rfl) ?_
      obtain ⟨⟨o5, o6⟩, hc7, hf⟩ := bd_inv hf
      refine xcV (As := []) (rest := []) (ws' := [(ta, .inr (4, [.ref tb, .int tln, .int tcl, .int o5, .int o6, .int r1, .ref tc])), (tb, .inl (cC, 200, .inl tlt)), (tc, .inl (cI, 4, .inl tsv))]) ⟨hx, hb, hml, hown, hts⟩ (c_X4_advance l D B adK adV cC cF cI cZ cM cS ta tb tln tcl tts tte r1 tc tlt tsv  (o5, o6) hc7) (cwV 0 hts gX4_readUpTo_X4_advance rfl rfl rfl (by decide +kernel) ⟨Nat.le_of_ble_eq_true rfl, Nat.le_of_ble_eq_true rfl⟩) (va_recv hK hP (ci := 4) (q0 := 0) rfl rfl) hK hP hD hS hB hE [0, 1, 2] rfl rfl rfl rfl rfl hl.1 rfl (Nat.le_of_ble_eq_true rfl) dX4_readUpTo_22 ⟨Nat.le_of_ble_eq_true rfl, Nat.le_of_ble_eq_true rfl⟩ (fun H locs hP hD hS => ?_)
      refine W.eq (g2 := F0 m 25 ls []) rfl ?_
      refine lv_iconst (v := 1) hx hb dX4_readUpTo_25 (by decide) ?_
      have h1 := Option.some.inj hf
      subst h1
      rw [hQ]
      exact W.zret (v := 1) (ty := .boolean) hx hb hr rfl (fun t ht hW => qEnd hP hS ht) hS.2.2 dX4_readUpTo_26
    · have hf := if_n c4 hf
      refine lv_iconst (v := 0) hx hb dX4_readUpTo_14 (by decide) ?_
      have h1 := Option.some.inj hf
      subst h1
      rw [hQ]
      exact W.zret (v := 0) (ty := .boolean) hx hb hr rfl (fun t ht hW => qEnd hP hS ht) hS.2.2 dX4_readUpTo_15
set_option maxRecDepth 100000 in
set_option maxHeartbeats 4000000 in
theorem c_X4_readSigned (l : Launch) (D : va_G) (B : Nat) (adK adV : Nat → Nat) (cC cF cI cZ cM cS : ClassId) (ta : Nat) (tb : Nat) (tln : Int32) (tcl : Int32) (tts : Int32) (tte : Int32) (tam : Int32) (tc : Nat) (tlt : Nat → Int32) (tsv : Nat → Int32) (zz : Int32 × Int32 × Int32 × Int32) (hf : f_X4_readSigned tln tts tte tam tlt = some zz) : Ct l yX4_readSigned wsX4_readSigned { frames := 2, cells := 0, slots := 0, locals := 46 } D B adK adV (tysX cC cF cI cZ cM cS) [.ref ta] [(ta, .inr (4, [.ref tb, .int tln, .int tcl, .int tts, .int tte, .int tam, .ref tc])), (tb, .inl (cC, 200, .inl tlt)), (tc, .inl (cI, 4, .inl tsv))] [(ta, .inr (4, [.ref tb, .int tln, .int tcl, .int zz.2.1, .int zz.2.2.1, .int zz.2.2.2, .ref tc])), (tb, .inl (cC, 200, .inl tlt)), (tc, .inl (cI, 4, .inl tsv))] (some (.int zz.1)) := by
  refine Ct.ofW (cc := cX4_readSigned) (maxL := 2) (ret := (some .boolean)) (by decide) rfl (Nat.le_of_ble_eq_true rfl) ?_
  intro p e s m args below meth c hx hb hr hml hts hown hlocks hnm hK hE A Q hQ hB H locs ls hP hD hS hl
  have hl : lv_has ls 2 [(0, .ref ta)] := hl
  have w0 : ∀ w ∈ u_ws RX4 TX4 7, w ∈ wsX4_readSigned := by decide +kernel
  have w1 := hts (.fieldLink RX4 84 "MotionStates$Text" "amount" "I") (by decide +kernel)
  unfold f_X4_readSigned at hf
  refine lv_aload_n hx hb dX4_readSigned_0 rfl (lv_at hl 0 rfl) ?_
  refine lv_bipush (v := 45) hx hb dX4_readSigned_1 (by decide) ?_
  obtain ⟨r1, hc2, hf⟩ := bd_inv hf
  refine xcV (As := [.int 45]) (rest := []) (ws' := [(ta, .inr (4, [.ref tb, .int tln, .int tcl, .int tts, .int tte, .int tam, .ref tc])), (tb, .inl (cC, 200, .inl tlt)), (tc, .inl (cI, 4, .inl tsv))]) ⟨hx, hb, hml, hown, hts⟩ (c_X4_isSign l D B adK adV cC cF cI cZ cM cS ta tb tln tcl tts tte tam tc tlt tsv 45  r1 hc2) (cwV 1 hts gX4_readSigned_X4_isSign rfl rfl rfl (by decide +kernel) ⟨Nat.le_of_ble_eq_true rfl, Nat.le_of_ble_eq_true rfl⟩) (va_recv hK hP (ci := 4) (q0 := 0) rfl rfl) hK hP hD hS hB hE [0, 1, 2] rfl rfl rfl rfl rfl hl.1 rfl (Nat.le_of_ble_eq_true rfl) dX4_readSigned_3 ⟨Nat.le_of_ble_eq_true rfl, Nat.le_of_ble_eq_true rfl⟩ (fun H locs hP hD hS => ?_)
  refine W.eq (g2 := F0 m 6 ls [.int r1]) rfl ?_
  refine lv_istore_n (lv' := [(1, .int r1), (0, .ref ta)]) hx hb dX4_readSigned_6 rfl hl (by decide) rfl (fun ls hl => ?_)
  refine lv_iload_n hx hb dX4_readSigned_7 rfl (lv_at hl 0 rfl) ?_
  refine lv_if_eq (tgt := 15) hx hb dX4_readSigned_8 (by decide) (fun c3 => ?_) (fun c3 => ?_)
  · have hf := if_p c3 hf
    refine lv_aload_n hx hb dX4_readSigned_15 rfl (lv_at hl 1 rfl) ?_
    refine lv_bipush (v := 99) hx hb dX4_readSigned_16 (by decide) ?_
    obtain ⟨⟨r4, o5, o6, o7⟩, hc8, hf⟩ := bd_inv hf
    refine xcV (As := [.int 99]) (rest := []) (ws' := [(ta, .inr (4, [.ref tb, .int tln, .int tcl, .int o5, .int o6, .int o7, .ref tc])), (tb, .inl (cC, 200, .inl tlt)), (tc, .inl (cI, 4, .inl tsv))]) ⟨hx, hb, hml, hown, hts⟩ (c_X4_readUpTo l D B adK adV cC cF cI cZ cM cS ta tb tln tcl tts tte tam tc tlt tsv 99  (r4, o5, o6, o7) hc8) (cwV 1 hts gX4_readSigned_X4_readUpTo rfl rfl rfl (by decide +kernel) ⟨Nat.le_of_ble_eq_true rfl, Nat.le_of_ble_eq_true rfl⟩) (va_recv hK hP (ci := 4) (q0 := 0) rfl rfl) hK hP hD hS hB hE [0, 1, 2] rfl rfl rfl rfl rfl hl.1 rfl (Nat.le_of_ble_eq_true rfl) dX4_readSigned_18 ⟨Nat.le_of_ble_eq_true rfl, Nat.le_of_ble_eq_true rfl⟩ (fun H locs hP hD hS => ?_)
    refine W.eq (g2 := F0 m 21 ls [.int r4]) rfl ?_
    refine lv_if_ne (tgt := 26) hx hb dX4_readSigned_21 (by decide) (fun c9 => ?_) (fun c9 => ?_)
    · have hf := if_n c9 hf
      refine lv_aload_n hx hb dX4_readSigned_26 rfl (lv_at hl 1 rfl) ?_
      refine lv_iload_n hx hb dX4_readSigned_27 rfl (lv_at hl 0 rfl) ?_
      refine lv_if_eq (tgt := 39) hx hb dX4_readSigned_28 (by decide) (fun c10 => ?_) (fun c10 => absurd c3 c10)
      refine lv_aload_n hx hb dX4_readSigned_39 rfl (lv_at hl 1 rfl) ?_
      refine va_get (D := D) (ci := 4) (v := .int o7) (C := RX4) (T := TX4) (N := 7) hx hb hts w0 hown hK hP 0 rfl rfl 5 (by decide) w1 (fun _ h9 => h9) rfl dX4_readSigned_40 ?_
      refine va_put (D := D) (ci := 4) (v := .int o7) (ty := .int) (C := RX4) (T := TX4) (N := 7) hx hb hts w0 tyX4 tyX4_ok nmX4 hown hK hP hD hS 0 rfl rfl 5 (by decide) w1 (fun _ h9 => h9) rfl (by decide +kernel) rfl rfl (Nat.le_of_ble_eq_true rfl) dX4_readSigned_43 (fun H locs hP hD hS => ?_)
      have hP : va_P D vwCl [(ta, .inr (4, [.ref tb, .int tln, .int tcl, .int o5, .int o6, .int o7, .ref tc])), (tb, .inl (cC, 200, .inl tlt)), (tc, .inl (cI, 4, .inl tsv))] H := hP
      have hD : va_D A [(ta, .inr (4, [.ref tb, .int tln, .int tcl, .int o5, .int o6, .int o7, .ref tc])), (tb, .inl (cC, 200, .inl tlt)), (tc, .inl (cI, 4, .inl tsv))] := hD
      refine lv_iconst (v := 1) hx hb dX4_readSigned_46 (by decide) ?_
      have h1 := Option.some.inj hf
      subst h1
      rw [hQ]
      exact W.zret (v := 1) (ty := .boolean) hx hb hr rfl (fun t ht hW => qEnd hP hS ht) hS.2.2 dX4_readSigned_47
    · have hf := if_p c9 hf
      refine lv_iconst (v := 0) hx hb dX4_readSigned_24 (by decide) ?_
      have h1 := Option.some.inj hf
      subst h1
      rw [hQ]
      exact W.zret (v := 0) (ty := .boolean) hx hb hr rfl (fun t ht hW => qEnd hP hS ht) hS.2.2 dX4_readSigned_25
  · have hf := if_n c3 hf
    refine lv_aload_n hx hb dX4_readSigned_11 rfl (lv_at hl 1 rfl) ?_
    obtain ⟨⟨o11, o12⟩, hc13, hf⟩ := bd_inv hf
    refine xcV (As := []) (rest := []) (ws' := [(ta, .inr (4, [.ref tb, .int tln, .int tcl, .int o11, .int o12, .int tam, .ref tc])), (tb, .inl (cC, 200, .inl tlt)), (tc, .inl (cI, 4, .inl tsv))]) ⟨hx, hb, hml, hown, hts⟩ (c_X4_advance l D B adK adV cC cF cI cZ cM cS ta tb tln tcl tts tte tam tc tlt tsv  (o11, o12) hc13) (cwV 0 hts gX4_readSigned_X4_advance rfl rfl rfl (by decide +kernel) ⟨Nat.le_of_ble_eq_true rfl, Nat.le_of_ble_eq_true rfl⟩) (va_recv hK hP (ci := 4) (q0 := 0) rfl rfl) hK hP hD hS hB hE [0, 1, 2] rfl rfl rfl rfl rfl hl.1 rfl (Nat.le_of_ble_eq_true rfl) dX4_readSigned_12 ⟨Nat.le_of_ble_eq_true rfl, Nat.le_of_ble_eq_true rfl⟩ (fun H locs hP hD hS => ?_)
    refine W.eq (g2 := F0 m 15 ls []) rfl ?_
    refine lv_aload_n hx hb dX4_readSigned_15 rfl (lv_at hl 1 rfl) ?_
    refine lv_bipush (v := 99) hx hb dX4_readSigned_16 (by decide) ?_
    obtain ⟨⟨r14, o15, o16, o17⟩, hc18, hf⟩ := bd_inv hf
    refine xcV (As := [.int 99]) (rest := []) (ws' := [(ta, .inr (4, [.ref tb, .int tln, .int tcl, .int o15, .int o16, .int o17, .ref tc])), (tb, .inl (cC, 200, .inl tlt)), (tc, .inl (cI, 4, .inl tsv))]) ⟨hx, hb, hml, hown, hts⟩ (c_X4_readUpTo l D B adK adV cC cF cI cZ cM cS ta tb tln tcl o11 o12 tam tc tlt tsv 99  (r14, o15, o16, o17) hc18) (cwV 1 hts gX4_readSigned_X4_readUpTo rfl rfl rfl (by decide +kernel) ⟨Nat.le_of_ble_eq_true rfl, Nat.le_of_ble_eq_true rfl⟩) (va_recv hK hP (ci := 4) (q0 := 0) rfl rfl) hK hP hD hS hB hE [0, 1, 2] rfl rfl rfl rfl rfl hl.1 rfl (Nat.le_of_ble_eq_true rfl) dX4_readSigned_18 ⟨Nat.le_of_ble_eq_true rfl, Nat.le_of_ble_eq_true rfl⟩ (fun H locs hP hD hS => ?_)
    refine W.eq (g2 := F0 m 21 ls [.int r14]) rfl ?_
    refine lv_if_ne (tgt := 26) hx hb dX4_readSigned_21 (by decide) (fun c19 => ?_) (fun c19 => ?_)
    · have hf := if_n c19 hf
      refine lv_aload_n hx hb dX4_readSigned_26 rfl (lv_at hl 1 rfl) ?_
      refine lv_iload_n hx hb dX4_readSigned_27 rfl (lv_at hl 0 rfl) ?_
      refine lv_if_eq (tgt := 39) hx hb dX4_readSigned_28 (by decide) (fun c20 => absurd c20 c3) (fun c20 => ?_)
      refine lv_aload_n hx hb dX4_readSigned_31 rfl (lv_at hl 1 rfl) ?_
      refine va_get (D := D) (ci := 4) (v := .int o17) (C := RX4) (T := TX4) (N := 7) hx hb hts w0 hown hK hP 0 rfl rfl 5 (by decide) w1 (fun _ h9 => h9) rfl dX4_readSigned_32 ?_
      refine lv_ineg hx hb dX4_readSigned_35 ?_
      refine lv_goto (tgt := 43) hx hb dX4_readSigned_36 (by decide) ?_
      refine va_put (D := D) (ci := 4) (v := .int (-o17)) (ty := .int) (C := RX4) (T := TX4) (N := 7) hx hb hts w0 tyX4 tyX4_ok nmX4 hown hK hP hD hS 0 rfl rfl 5 (by decide) w1 (fun _ h9 => h9) rfl (by decide +kernel) rfl rfl (Nat.le_of_ble_eq_true rfl) dX4_readSigned_43 (fun H locs hP hD hS => ?_)
      have hP : va_P D vwCl [(ta, .inr (4, [.ref tb, .int tln, .int tcl, .int o15, .int o16, .int (-o17), .ref tc])), (tb, .inl (cC, 200, .inl tlt)), (tc, .inl (cI, 4, .inl tsv))] H := hP
      have hD : va_D A [(ta, .inr (4, [.ref tb, .int tln, .int tcl, .int o15, .int o16, .int (-o17), .ref tc])), (tb, .inl (cC, 200, .inl tlt)), (tc, .inl (cI, 4, .inl tsv))] := hD
      refine lv_iconst (v := 1) hx hb dX4_readSigned_46 (by decide) ?_
      have h1 := Option.some.inj hf
      subst h1
      rw [hQ]
      exact W.zret (v := 1) (ty := .boolean) hx hb hr rfl (fun t ht hW => qEnd hP hS ht) hS.2.2 dX4_readSigned_47
    · have hf := if_p c19 hf
      refine lv_iconst (v := 0) hx hb dX4_readSigned_24 (by decide) ?_
      have h1 := Option.some.inj hf
      subst h1
      rw [hQ]
      exact W.zret (v := 0) (ty := .boolean) hx hb hr rfl (fun t ht hW => qEnd hP hS ht) hS.2.2 dX4_readSigned_25
set_option maxRecDepth 100000 in
set_option maxHeartbeats 4000000 in
theorem c_X4_readFrames (l : Launch) (D : va_G) (B : Nat) (adK adV : Nat → Nat) (cC cF cI cZ cM cS : ClassId) (ta : Nat) (tb : Nat) (tln : Int32) (tcl : Int32) (tts : Int32) (tte : Int32) (tam : Int32) (tc : Nat) (tlt : Nat → Int32) (tsv : Nat → Int32) (zz : Int32 × Int32 × Int32 × Int32) (hf : f_X4_readFrames tln tts tte tam tlt = some zz) : Ct l yX4_readFrames wsX4_readFrames { frames := 2, cells := 0, slots := 0, locals := 46 } D B adK adV (tysX cC cF cI cZ cM cS) [.ref ta] [(ta, .inr (4, [.ref tb, .int tln, .int tcl, .int tts, .int tte, .int tam, .ref tc])), (tb, .inl (cC, 200, .inl tlt)), (tc, .inl (cI, 4, .inl tsv))] [(ta, .inr (4, [.ref tb, .int tln, .int tcl, .int zz.2.1, .int zz.2.2.1, .int zz.2.2.2, .ref tc])), (tb, .inl (cC, 200, .inl tlt)), (tc, .inl (cI, 4, .inl tsv))] (some (.int zz.1)) := by
  refine Ct.ofW (cc := cX4_readFrames) (maxL := 3) (ret := (some .boolean)) (by decide) rfl (Nat.le_of_ble_eq_true rfl) ?_
  intro p e s m args below meth c hx hb hr hml hts hown hlocks hnm hK hE A Q hQ hB H locs ls hP hD hS hl
  have hl : lv_has ls 3 [(0, .ref ta)] := hl
  unfold f_X4_readFrames at hf
  refine lv_aload_n hx hb dX4_readFrames_0 rfl (lv_at hl 0 rfl) ?_
  obtain ⟨r1, hc2, hf⟩ := bd_inv hf
  refine xcV (As := []) (rest := []) (ws' := [(ta, .inr (4, [.ref tb, .int tln, .int tcl, .int tts, .int tte, .int tam, .ref tc])), (tb, .inl (cC, 200, .inl tlt)), (tc, .inl (cI, 4, .inl tsv))]) ⟨hx, hb, hml, hown, hts⟩ (c_X4_numberHere l D B adK adV cC cF cI cZ cM cS ta tb tln tcl tts tte tam tc tlt tsv  r1 hc2) (cwV 0 hts gX4_readFrames_X4_numberHere rfl rfl rfl (by decide +kernel) ⟨Nat.le_of_ble_eq_true rfl, Nat.le_of_ble_eq_true rfl⟩) (va_recv hK hP (ci := 4) (q0 := 0) rfl rfl) hK hP hD hS hB hE [0, 1, 2] rfl rfl rfl rfl rfl hl.1 rfl (Nat.le_of_ble_eq_true rfl) dX4_readFrames_1 ⟨Nat.le_of_ble_eq_true rfl, Nat.le_of_ble_eq_true rfl⟩ (fun H locs hP hD hS => ?_)
  refine W.eq (g2 := F0 m 4 ls [.int r1]) rfl ?_
  refine lv_istore_n (lv' := [(1, .int r1), (0, .ref ta)]) hx hb dX4_readFrames_4 rfl hl (by decide) rfl (fun ls hl => ?_)
  refine lv_iload_n hx hb dX4_readFrames_5 rfl (lv_at hl 0 rfl) ?_
  refine lv_if_lt (tgt := 21) hx hb dX4_readFrames_6 (by decide) (fun c3 => ?_) (fun c3 => ?_)
  · have hf := if_p c3 hf
    refine lv_iconst (v := 0) hx hb dX4_readFrames_21 (by decide) ?_
    refine lv_istore_n (lv' := [(2, .int 0), (1, .int r1), (0, .ref ta)]) hx hb dX4_readFrames_22 rfl hl (by decide) rfl (fun ls hl => ?_)
    refine lv_iload_n hx hb dX4_readFrames_23 rfl (lv_at hl 0 rfl) ?_
    refine lv_if_eq (tgt := 40) hx hb dX4_readFrames_24 (by decide) (fun c4 => ?_) (fun c4 => absurd c4 (by decide))
    refine lv_iconst (v := 0) hx hb dX4_readFrames_40 (by decide) ?_
    have h1 := Option.some.inj hf
    subst h1
    rw [hQ]
    exact W.zret (v := 0) (ty := .boolean) hx hb hr rfl (fun t ht hW => qEnd hP hS ht) hS.2.2 dX4_readFrames_41
  · have hf := if_n c3 hf
    refine lv_iload_n hx hb dX4_readFrames_9 rfl (lv_at hl 0 rfl) ?_
    refine lv_iload_n hx hb dX4_readFrames_10 rfl (lv_at hl 0 rfl) ?_
    refine lv_iconst (v := 1) hx hb dX4_readFrames_11 (by decide) ?_
    refine lv_isub hx hb dX4_readFrames_12 ?_
    refine lv_iand hx hb dX4_readFrames_13 ?_
    refine lv_if_ne (tgt := 21) hx hb dX4_readFrames_14 (by decide) (fun c5 => ?_) (fun c5 => ?_)
    · have hf := if_n c5 hf
      refine lv_iconst (v := 0) hx hb dX4_readFrames_21 (by decide) ?_
      refine lv_istore_n (lv' := [(2, .int 0), (1, .int r1), (0, .ref ta)]) hx hb dX4_readFrames_22 rfl hl (by decide) rfl (fun ls hl => ?_)
      refine lv_iload_n hx hb dX4_readFrames_23 rfl (lv_at hl 0 rfl) ?_
      refine lv_if_eq (tgt := 40) hx hb dX4_readFrames_24 (by decide) (fun c6 => ?_) (fun c6 => absurd c6 (by decide))
      refine lv_iconst (v := 0) hx hb dX4_readFrames_40 (by decide) ?_
      have h1 := Option.some.inj hf
      subst h1
      rw [hQ]
      exact W.zret (v := 0) (ty := .boolean) hx hb hr rfl (fun t ht hW => qEnd hP hS ht) hS.2.2 dX4_readFrames_41
    · have hf := if_p c5 hf
      refine lv_iconst (v := 1) hx hb dX4_readFrames_17 (by decide) ?_
      refine lv_goto (tgt := 22) hx hb dX4_readFrames_18 (by decide) ?_
      refine lv_istore_n (lv' := [(2, .int 1), (1, .int r1), (0, .ref ta)]) hx hb dX4_readFrames_22 rfl hl (by decide) rfl (fun ls hl => ?_)
      refine lv_iload_n hx hb dX4_readFrames_23 rfl (lv_at hl 0 rfl) ?_
      refine lv_if_eq (tgt := 40) hx hb dX4_readFrames_24 (by decide) (fun c7 => absurd c7 (by decide)) (fun c7 => ?_)
      refine lv_aload_n hx hb dX4_readFrames_27 rfl (lv_at hl 2 rfl) ?_
      refine lv_bipush (v := 16) hx hb dX4_readFrames_28 (by decide) ?_
      obtain ⟨⟨r8, o9, o10, o11⟩, hc12, hf⟩ := bd_inv hf
      refine xcV (As := [.int 16]) (rest := []) (ws' := [(ta, .inr (4, [.ref tb, .int tln, .int tcl, .int o9, .int o10, .int o11, .ref tc])), (tb, .inl (cC, 200, .inl tlt)), (tc, .inl (cI, 4, .inl tsv))]) ⟨hx, hb, hml, hown, hts⟩ (c_X4_readUpTo l D B adK adV cC cF cI cZ cM cS ta tb tln tcl tts tte tam tc tlt tsv 16  (r8, o9, o10, o11) hc12) (cwV 1 hts gX4_readFrames_X4_readUpTo rfl rfl rfl (by decide +kernel) ⟨Nat.le_of_ble_eq_true rfl, Nat.le_of_ble_eq_true rfl⟩) (va_recv hK hP (ci := 4) (q0 := 0) rfl rfl) hK hP hD hS hB hE [0, 1, 2] rfl rfl rfl rfl rfl hl.1 rfl (Nat.le_of_ble_eq_true rfl) dX4_readFrames_30 ⟨Nat.le_of_ble_eq_true rfl, Nat.le_of_ble_eq_true rfl⟩ (fun H locs hP hD hS => ?_)
      refine W.eq (g2 := F0 m 33 ls [.int r8]) rfl ?_
      refine lv_if_eq (tgt := 40) hx hb dX4_readFrames_33 (by decide) (fun c13 => ?_) (fun c13 => ?_)
      · have hf := if_p c13 hf
        refine lv_iconst (v := 0) hx hb dX4_readFrames_40 (by decide) ?_
        have h1 := Option.some.inj hf
        subst h1
        rw [hQ]
        exact W.zret (v := 0) (ty := .boolean) hx hb hr rfl (fun t ht hW => qEnd hP hS ht) hS.2.2 dX4_readFrames_41
      · have hf := if_n c13 hf
        refine lv_iconst (v := 1) hx hb dX4_readFrames_36 (by decide) ?_
        refine lv_goto (tgt := 41) hx hb dX4_readFrames_37 (by decide) ?_
        have h1 := Option.some.inj hf
        subst h1
        rw [hQ]
        exact W.zret (v := 1) (ty := .boolean) hx hb hr rfl (fun t ht hW => qEnd hP hS ht) hS.2.2 dX4_readFrames_41
