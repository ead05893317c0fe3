set_option maxRecDepth 100000 in
set_option maxHeartbeats 4000000 in
theorem c_J7_fill_e525d (l : Launch) (D : va_G) (B : Nat) (adK adV : Nat → Nat) (cC cF cI cZ cM cS : ClassId) (aa : Nat) (ac : Nat → UInt32) (nn : Nat) (v : UInt32) (zz : (Nat → UInt32)) (hf : f_J7_fill_e525d ac nn v = some zz) : Ct l yJ7_fill_e525d wsJ7_fill_e525d { frames := 0, cells := 0, slots := 0, locals := 0 } D B adK adV (tysX cC cF cI cZ cM cS) [.ref aa, .float v] [(aa, .inl (cF, nn, .inr (.inr (.inl ac))))] [(aa, .inl (cF, nn, .inr (.inr (.inl zz))))] none := by
  refine Ct.ofW (cc := cJ7_fill_e525d) (maxL := 4) (ret := none) (by decide) rfl (Nat.le_of_ble_eq_true rfl) ?_
  intro p e s m args below meth c hx hb hr hml hts hown hlocks hnm hK hE A Q hQ hB H locs ls hP hD hS hl
  have hl : lv_has ls 4 [(0, .ref aa), (1, .float v)] := hl
  have L5 : ∀ (n : Nat) (x2_5 : Int32) (ac_5 : Nat → UInt32) (oo : Int32 × (Nat → UInt32)), f_J7_fill_e525d_L5 nn v n x2_5 ac_5 = some oo → ∀ (H : Heap) (locs : List Loc) (ls : Array Slot), va_P D vwCl [(aa, .inl (cF, nn, .inr (.inr (.inl ac_5))))] H → va_D A [(aa, .inl (cF, nn, .inr (.inr (.inl ac_5))))] → va_S A s.heap H locs → lv_has ls 4 [(3, .int (Int32.ofNat nn)), (2, .int x2_5), (0, .ref aa), (1, .float v)] → (∀ (H : Heap) (locs : List Loc) (ls : Array Slot), va_P D vwCl [(aa, .inl (cF, nn, .inr (.inr (.inl oo.2))))] H → va_D A [(aa, .inl (cF, nn, .inr (.inr (.inl oo.2))))] → va_S A s.heap H locs → lv_has ls 4 [(3, .int (Int32.ofNat nn)), (2, .int oo.1), (0, .ref aa), (1, .float v)] → W p l e { frames := 0, cells := 0, slots := 0, locals := 0 } s m args below meth c H locs 0 0 Q (F0 m 20 ls [])) → W p l e { frames := 0, cells := 0, slots := 0, locals := 0 } s m args below meth c H locs 0 0 Q (F0 m 5 ls []) := by
    intro n
    induction n with
    | zero => intro x2_5 ac_5 oo hf; exact absurd hf (by simp [f_J7_fill_e525d_L5])
    | succ n ih =>
      intro x2_5 ac_5 oo hf H locs ls hP hD hS hl kk
      rw [f_J7_fill_e525d_L5] at hf
      refine lv_iload_n hx hb dJ7_fill_e525d_5 rfl (lv_at hl 1 rfl) ?_
      refine lv_iload_n hx hb dJ7_fill_e525d_6 rfl (lv_at hl 0 rfl) ?_
      refine lv_icmp_ge (tgt := 20) hx hb dJ7_fill_e525d_7 (by decide) (fun c1 => ?_) (fun c1 => ?_)
      · have hf := if_p c1 hf
        have h1 := Option.some.inj hf
        subst h1
        exact kk H locs ls hP hD hS (lv_sub hl [0, 1, 2, 3] rfl)
      · have hf := if_n c1 hf
        refine lv_aload_n hx hb dJ7_fill_e525d_10 rfl (lv_at hl 2 rfl) ?_
        refine lv_iload_n hx hb dJ7_fill_e525d_11 rfl (lv_at hl 1 rfl) ?_
        refine lv_fload_n hx hb dJ7_fill_e525d_12 rfl (lv_at hl 3 rfl) ?_
        obtain ⟨g2, hf⟩ := gd_inv hf
        refine va_fast hx hb hK hP hD hS 0 1 rfl rfl g2 dJ7_fill_e525d_13 (fun H locs hP hD hS => ?_)
        have hP : va_P D vwCl [(aa, .inl (cF, nn, .inr (.inr (.inl (vf_upd ac_5 x2_5.toNatClampNeg v)))))] H := hP
        have hD : va_D A [(aa, .inl (cF, nn, .inr (.inr (.inl (vf_upd ac_5 x2_5.toNatClampNeg v)))))] := hD
        refine lv_iinc (v := x2_5 + 1) (lv' := [(2, .int (x2_5 + 1)), (3, .int (Int32.ofNat nn)), (0, .ref aa), (1, .float v)]) hx hb dJ7_fill_e525d_14 hl (k := 1) rfl rfl (by decide) rfl (fun ls hl => ?_)
        refine lv_goto (tgt := 5) hx hb dJ7_fill_e525d_17 (by decide) ?_
        exact ih (x2_5 + 1) (vf_upd ac_5 x2_5.toNatClampNeg v) oo hf H locs ls hP hD hS (lv_sub hl [1, 0, 2, 3] rfl) kk
  unfold f_J7_fill_e525d at hf
  refine lv_iconst (v := 0) hx hb dJ7_fill_e525d_0 (by decide) ?_
  refine lv_istore_n (lv' := [(2, .int 0), (0, .ref aa), (1, .float v)]) hx hb dJ7_fill_e525d_1 rfl hl (by decide) rfl (fun ls hl => ?_)
  refine lv_aload_n hx hb dJ7_fill_e525d_2 rfl (lv_at hl 1 rfl) ?_
  refine va_alen (v := (Int32.ofNat nn)) hx hb hK hP 0 1 rfl rfl rfl dJ7_fill_e525d_3 ?_
  refine lv_istore_n (lv' := [(3, .int (Int32.ofNat nn)), (2, .int 0), (0, .ref aa), (1, .float v)]) hx hb dJ7_fill_e525d_4 rfl hl (by decide) rfl (fun ls hl => ?_)
  obtain ⟨⟨q3, q4⟩, hq5, hf⟩ := bd_inv hf
  refine L5 1000 0 ac (q3, q4) hq5 H locs ls hP hD hS (lv_sub hl [0, 1, 2, 3] rfl) (fun H locs ls hP hD hS hl => ?_)
  have hP : va_P D vwCl [(aa, .inl (cF, nn, .inr (.inr (.inl q4))))] H := hP
  have hD : va_D A [(aa, .inl (cF, nn, .inr (.inr (.inl q4))))] := hD
  have hl : lv_has ls 4 [(3, .int (Int32.ofNat nn)), (2, .int q3), (0, .ref aa), (1, .float v)] := hl
  have h1 := Option.some.inj hf
  subst h1
  rw [hQ]
  exact W.vret hx hb hr (fun t ht hW => qEnd hP hS ht) hS.2.2 dJ7_fill_e525d_20
set_option maxRecDepth 100000 in
set_option maxHeartbeats 4000000 in
theorem c_J7_fill_53178 (l : Launch) (D : va_G) (B : Nat) (adK adV : Nat → Nat) (cC cF cI cZ cM cS : ClassId) (aa : Nat) (ac : Nat → Int32) (nn : Nat) (v : Int32) (zz : (Nat → Int32)) (hf : f_J7_fill_53178 ac nn v = some zz) : Ct l yJ7_fill_53178 wsJ7_fill_53178 { frames := 0, cells := 0, slots := 0, locals := 0 } D B adK adV (tysX cC cF cI cZ cM cS) [.ref aa, .int v] [(aa, .inl (cI, nn, .inl ac))] [(aa, .inl (cI, nn, .inl zz))] none := by
  refine Ct.ofW (cc := cJ7_fill_53178) (maxL := 4) (ret := none) (by decide) rfl (Nat.le_of_ble_eq_true rfl) ?_
  intro p e s m args below meth c hx hb hr hml hts hown hlocks hnm hK hE A Q hQ hB H locs ls hP hD hS hl
  have hl : lv_has ls 4 [(0, .ref aa), (1, .int v)] := hl
  have L5 : ∀ (n : Nat) (x2_5 : Int32) (ac_5 : Nat → Int32) (oo : Int32 × (Nat → Int32)), f_J7_fill_53178_L5 nn v n x2_5 ac_5 = some oo → ∀ (H : Heap) (locs : List Loc) (ls : Array Slot), va_P D vwCl [(aa, .inl (cI, nn, .inl ac_5))] H → va_D A [(aa, .inl (cI, nn, .inl ac_5))] → va_S A s.heap H locs → lv_has ls 4 [(3, .int (Int32.ofNat nn)), (2, .int x2_5), (0, .ref aa), (1, .int v)] → (∀ (H : Heap) (locs : List Loc) (ls : Array Slot), va_P D vwCl [(aa, .inl (cI, nn, .inl oo.2))] H → va_D A [(aa, .inl (cI, nn, .inl oo.2))] → va_S A s.heap H locs → lv_has ls 4 [(3, .int (Int32.ofNat nn)), (2, .int oo.1), (0, .ref aa), (1, .int v)] → W p l e { frames := 0, cells := 0, slots := 0, locals := 0 } s m args below meth c H locs 0 0 Q (F0 m 20 ls [])) → W p l e { frames := 0, cells := 0, slots := 0, locals := 0 } s m args below meth c H locs 0 0 Q (F0 m 5 ls []) := by
    intro n
    induction n with
    | zero => intro x2_5 ac_5 oo hf; exact absurd hf (by simp [f_J7_fill_53178_L5])
    | succ n ih =>
      intro x2_5 ac_5 oo hf H locs ls hP hD hS hl kk
      rw [f_J7_fill_53178_L5] at hf
      refine lv_iload_n hx hb dJ7_fill_53178_5 rfl (lv_at hl 1 rfl) ?_
      refine lv_iload_n hx hb dJ7_fill_53178_6 rfl (lv_at hl 0 rfl) ?_
      refine lv_icmp_ge (tgt := 20) hx hb dJ7_fill_53178_7 (by decide) (fun c1 => ?_) (fun c1 => ?_)
      · have hf := if_p c1 hf
        have h1 := Option.some.inj hf
        subst h1
        exact kk H locs ls hP hD hS (lv_sub hl [0, 1, 2, 3] rfl)
      · have hf := if_n c1 hf
        refine lv_aload_n hx hb dJ7_fill_53178_10 rfl (lv_at hl 2 rfl) ?_
        refine lv_iload_n hx hb dJ7_fill_53178_11 rfl (lv_at hl 1 rfl) ?_
        refine lv_iload_n hx hb dJ7_fill_53178_12 rfl (lv_at hl 3 rfl) ?_
        obtain ⟨g2, hf⟩ := gd_inv hf
        refine va_iast hx hb hK hP hD hS 0 2 rfl rfl g2 dJ7_fill_53178_13 (fun H locs hP hD hS => ?_)
        have hP : va_P D vwCl [(aa, .inl (cI, nn, .inl (upd ac_5 x2_5.toNatClampNeg v)))] H := hP
        have hD : va_D A [(aa, .inl (cI, nn, .inl (upd ac_5 x2_5.toNatClampNeg v)))] := hD
        refine lv_iinc (v := x2_5 + 1) (lv' := [(2, .int (x2_5 + 1)), (3, .int (Int32.ofNat nn)), (0, .ref aa), (1, .int v)]) hx hb dJ7_fill_53178_14 hl (k := 1) rfl rfl (by decide) rfl (fun ls hl => ?_)
        refine lv_goto (tgt := 5) hx hb dJ7_fill_53178_17 (by decide) ?_
        exact ih (x2_5 + 1) (upd ac_5 x2_5.toNatClampNeg v) oo hf H locs ls hP hD hS (lv_sub hl [1, 0, 2, 3] rfl) kk
  unfold f_J7_fill_53178 at hf
  refine lv_iconst (v := 0) hx hb dJ7_fill_53178_0 (by decide) ?_
  refine lv_istore_n (lv' := [(2, .int 0), (0, .ref aa), (1, .int v)]) hx hb dJ7_fill_53178_1 rfl hl (by decide) rfl (fun ls hl => ?_)
  refine lv_aload_n hx hb dJ7_fill_53178_2 rfl (lv_at hl 1 rfl) ?_
  refine va_alen (v := (Int32.ofNat nn)) hx hb hK hP 0 2 rfl rfl rfl dJ7_fill_53178_3 ?_
  refine lv_istore_n (lv' := [(3, .int (Int32.ofNat nn)), (2, .int 0), (0, .ref aa), (1, .int v)]) hx hb dJ7_fill_53178_4 rfl hl (by decide) rfl (fun ls hl => ?_)
  obtain ⟨⟨q3, q4⟩, hq5, hf⟩ := bd_inv hf
  refine L5 1000 0 ac (q3, q4) hq5 H locs ls hP hD hS (lv_sub hl [0, 1, 2, 3] rfl) (fun H locs ls hP hD hS hl => ?_)
  have hP : va_P D vwCl [(aa, .inl (cI, nn, .inl q4))] H := hP
  have hD : va_D A [(aa, .inl (cI, nn, .inl q4))] := hD
  have hl : lv_has ls 4 [(3, .int (Int32.ofNat nn)), (2, .int q3), (0, .ref aa), (1, .int v)] := hl
  have h1 := Option.some.inj hf
  subst h1
  rw [hQ]
  exact W.vret hx hb hr (fun t ht hW => qEnd hP hS ht) hS.2.2 dJ7_fill_53178_20
set_option maxRecDepth 100000 in
set_option maxHeartbeats 4000000 in
theorem c_X1_copyFrom (l : Launch) (D : va_G) (B : Nat) (adK adV : Nat → Nat) (cC cF cI cZ cM cS : ClassId) (la : Nat) (lst : Int32) (lla : Int32) (lbw : Int32) (lbf : Int32) (lbd : Int32) (lb : Nat) (lc : Nat) (lsh : Nat → UInt32) (lsb : Nat → UInt32) (ka : Nat) (kst : Int32) (kla : Int32) (kbw : Int32) (kbf : Int32) (kbd : Int32) (kb : Nat) (kc : Nat) (ksh : Nat → UInt32) (ksb : Nat → UInt32) (zz : (Nat → UInt32) × (Nat → UInt32) × Int32 × Int32 × Int32 × Int32 × Int32) (hf : f_X1_copyFrom lsh lsb kst kla kbw kbf kbd ksh ksb = some zz) : Ct l yX1_copyFrom wsX1_copyFrom { frames := 1, cells := 0, slots := 0, locals := 68 } D B adK adV (tysX cC cF cI cZ cM cS) [.ref la, .ref ka] [(la, .inr (1, [.int lst, .int lla, .int lbw, .int lbf, .int lbd, .ref lb, .ref lc])), (lb, .inl (cF, 6, .inr (.inr (.inl lsh)))), (lc, .inl (cF, 6, .inr (.inr (.inl lsb)))), (ka, .inr (1, [.int kst, .int kla, .int kbw, .int kbf, .int kbd, .ref kb, .ref kc])), (kb, .inl (cF, 6, .inr (.inr (.inl ksh)))), (kc, .inl (cF, 6, .inr (.inr (.inl ksb))))] [(la, .inr (1, [.int zz.2.2.1, .int zz.2.2.2.1, .int zz.2.2.2.2.1, .int zz.2.2.2.2.2.1, .int zz.2.2.2.2.2.2, .ref lb, .ref lc])), (lb, .inl (cF, 6, .inr (.inr (.inl zz.1)))), (lc, .inl (cF, 6, .inr (.inr (.inl zz.2.1)))), (ka, .inr (1, [.int kst, .int kla, .int kbw, .int kbf, .int kbd, .ref kb, .ref kc])), (kb, .inl (cF, 6, .inr (.inr (.inl ksh)))), (kc, .inl (cF, 6, .inr (.inr (.inl ksb))))] none := by
  refine Ct.ofW (cc := cX1_copyFrom) (maxL := 2) (ret := none) (by decide) rfl (Nat.le_of_ble_eq_true rfl) ?_
  intro p e s m args below meth c hx hb hr hml hts hown hlocks hnm hK hE A Q hQ hB H locs ls hP hD hS hl
  have hl : lv_has ls 2 [(0, .ref la), (1, .ref ka)] := hl
  have w0 : ∀ w ∈ u_ws RX1 TX1 7, w ∈ wsX1_copyFrom := by decide +kernel
  have w1 := hts (.fieldLink RX1 22 "MotionStates$Layer" "state" "I") (by decide +kernel)
  have w2 := hts (.fieldLink RX1 25 "MotionStates$Layer" "lasted" "I") (by decide +kernel)
  have w3 := hts (.fieldLink RX1 9 "MotionStates$Layer" "blendWay" "I") (by decide +kernel)
  have w4 := hts (.fieldLink RX1 28 "MotionStates$Layer" "blendFrames" "I") (by decide +kernel)
  have w5 := hts (.fieldLink RX1 31 "MotionStates$Layer" "blendDone" "I") (by decide +kernel)
  have w6 := hts (.fieldLink RX1 15 "MotionStates$Layer" "shares" "[F") (by decide +kernel)
  have w7 := hts (.methodLink RX1 34 arraycopyName) (by decide +kernel)
  have w8 := hts (.native arraycopyName) (by decide +kernel)
  have w9 := hts (.static arraycopyName) (by decide +kernel)
  have w10 := hts (.initialized "java/lang/System") (by decide +kernel)
  have w11 := hts (.fieldLink RX1 19 "MotionStates$Layer" "sharesBefore" "[F") (by decide +kernel)
  unfold f_X1_copyFrom at hf
  refine lv_aload_n hx hb dX1_copyFrom_0 rfl (lv_at hl 0 rfl) ?_
  refine lv_aload_n hx hb dX1_copyFrom_1 rfl (lv_at hl 1 rfl) ?_
  refine va_get (D := D) (ci := 1) (v := .int kst) (C := RX1) (T := TX1) (N := 7) hx hb hts w0 hown hK hP 3 rfl rfl 0 (by decide) w1 (fun _ h9 => h9) rfl dX1_copyFrom_2 ?_
  refine va_put (D := D) (ci := 1) (v := .int kst) (ty := .int) (C := RX1) (T := TX1) (N := 7) hx hb hts w0 tyX1 tyX1_ok nmX1 hown hK hP hD hS 0 rfl rfl 0 (by decide) w1 (fun _ h9 => h9) rfl (by decide +kernel) rfl rfl (Nat.le_of_ble_eq_true rfl) dX1_copyFrom_5 (fun H locs hP hD hS => ?_)
  have hP : va_P D vwCl [(la, .inr (1, [.int kst, .int lla, .int lbw, .int lbf, .int lbd, .ref lb, .ref lc])), (lb, .inl (cF, 6, .inr (.inr (.inl lsh)))), (lc, .inl (cF, 6, .inr (.inr (.inl lsb)))), (ka, .inr (1, [.int kst, .int kla, .int kbw, .int kbf, .int kbd, .ref kb, .ref kc])), (kb, .inl (cF, 6, .inr (.inr (.inl ksh)))), (kc, .inl (cF, 6, .inr (.inr (.inl ksb))))] H := hP
  have hD : va_D A [(la, .inr (1, [.int kst, .int lla, .int lbw, .int lbf, .int lbd, .ref lb, .ref lc])), (lb, .inl (cF, 6, .inr (.inr (.inl lsh)))), (lc, .inl (cF, 6, .inr (.inr (.inl lsb)))), (ka, .inr (1, [.int kst, .int kla, .int kbw, .int kbf, .int kbd, .ref kb, .ref kc])), (kb, .inl (cF, 6, .inr (.inr (.inl ksh)))), (kc, .inl (cF, 6, .inr (.inr (.inl ksb))))] := hD
  refine lv_aload_n hx hb dX1_copyFrom_8 rfl (lv_at hl 0 rfl) ?_
  refine lv_aload_n hx hb dX1_copyFrom_9 rfl (lv_at hl 1 rfl) ?_
  refine va_get (D := D) (ci := 1) (v := .int kla) (C := RX1) (T := TX1) (N := 7) hx hb hts w0 hown hK hP 3 rfl rfl 1 (by decide) w2 (fun _ h9 => h9) rfl dX1_copyFrom_10 ?_
  refine va_put (D := D) (ci := 1) (v := .int kla) (ty := .int) (C := RX1) (T := TX1) (N := 7) hx hb hts w0 tyX1 tyX1_ok nmX1 hown hK hP hD hS 0 rfl rfl 1 (by decide) w2 (fun _ h9 => h9) rfl (by decide +kernel) rfl rfl (Nat.le_of_ble_eq_true rfl) dX1_copyFrom_13 (fun H locs hP hD hS => ?_)
  have hP : va_P D vwCl [(la, .inr (1, [.int kst, .int kla, .int lbw, .int lbf, .int lbd, .ref lb, .ref lc])), (lb, .inl (cF, 6, .inr (.inr (.inl lsh)))), (lc, .inl (cF, 6, .inr (.inr (.inl lsb)))), (ka, .inr (1, [.int kst, .int kla, .int kbw, .int kbf, .int kbd, .ref kb, .ref kc])), (kb, .inl (cF, 6, .inr (.inr (.inl ksh)))), (kc, .inl (cF, 6, .inr (.inr (.inl ksb))))] H := hP
  have hD : va_D A [(la, .inr (1, [.int kst, .int kla, .int lbw, .int lbf, .int lbd, .ref lb, .ref lc])), (lb, .inl (cF, 6, .inr (.inr (.inl lsh)))), (lc, .inl (cF, 6, .inr (.inr (.inl lsb)))), (ka, .inr (1, [.int kst, .int kla, .int kbw, .int kbf, .int kbd, .ref kb, .ref kc])), (kb, .inl (cF, 6, .inr (.inr (.inl ksh)))), (kc, .inl (cF, 6, .inr (.inr (.inl ksb))))] := hD
  refine lv_aload_n hx hb dX1_copyFrom_16 rfl (lv_at hl 0 rfl) ?_
  refine lv_aload_n hx hb dX1_copyFrom_17 rfl (lv_at hl 1 rfl) ?_
  refine va_get (D := D) (ci := 1) (v := .int kbw) (C := RX1) (T := TX1) (N := 7) hx hb hts w0 hown hK hP 3 rfl rfl 2 (by decide) w3 (fun _ h9 => h9) rfl dX1_copyFrom_18 ?_
  refine va_put (D := D) (ci := 1) (v := .int kbw) (ty := .int) (C := RX1) (T := TX1) (N := 7) hx hb hts w0 tyX1 tyX1_ok nmX1 hown hK hP hD hS 0 rfl rfl 2 (by decide) w3 (fun _ h9 => h9) rfl (by decide +kernel) rfl rfl (Nat.le_of_ble_eq_true rfl) dX1_copyFrom_21 (fun H locs hP hD hS => ?_)
  have hP : va_P D vwCl [(la, .inr (1, [.int kst, .int kla, .int kbw, .int lbf, .int lbd, .ref lb, .ref lc])), (lb, .inl (cF, 6, .inr (.inr (.inl lsh)))), (lc, .inl (cF, 6, .inr (.inr (.inl lsb)))), (ka, .inr (1, [.int kst, .int kla, .int kbw, .int kbf, .int kbd, .ref kb, .ref kc])), (kb, .inl (cF, 6, .inr (.inr (.inl ksh)))), (kc, .inl (cF, 6, .inr (.inr (.inl ksb))))] H := hP
  have hD : va_D A [(la, .inr (1, [.int kst, .int kla, .int kbw, .int lbf, .int lbd, .ref lb, .ref lc])), (lb, .inl (cF, 6, .inr (.inr (.inl lsh)))), (lc, .inl (cF, 6, .inr (.inr (.inl lsb)))), (ka, .inr (1, [.int kst, .int kla, .int kbw, .int kbf, .int kbd, .ref kb, .ref kc])), (kb, .inl (cF, 6, .inr (.inr (.inl ksh)))), (kc, .inl (cF, 6, .inr (.inr (.inl ksb))))] := hD
  refine lv_aload_n hx hb dX1_copyFrom_24 rfl (lv_at hl 0 rfl) ?_
  refine lv_aload_n hx hb dX1_copyFrom_25 rfl (lv_at hl 1 rfl) ?_
  refine va_get (D := D) (ci := 1) (v := .int kbf) (C := RX1) (T := TX1) (N := 7) hx hb hts w0 hown hK hP 3 rfl rfl 3 (by decide) w4 (fun _ h9 => h9) rfl dX1_copyFrom_26 ?_
  refine va_put (D := D) (ci := 1) (v := .int kbf) (ty := .int) (C := RX1) (T := TX1) (N := 7) hx hb hts w0 tyX1 tyX1_ok nmX1 hown hK hP hD hS 0 rfl rfl 3 (by decide) w4 (fun _ h9 => h9) rfl (by decide +kernel) rfl rfl (Nat.le_of_ble_eq_true rfl) dX1_copyFrom_29 (fun H locs hP hD hS => ?_)
  have hP : va_P D vwCl [(la, .inr (1, [.int kst, .int kla, .int kbw, .int kbf, .int lbd, .ref lb, .ref lc])), (lb, .inl (cF, 6, .inr (.inr (.inl lsh)))), (lc, .inl (cF, 6, .inr (.inr (.inl lsb)))), (ka, .inr (1, [.int kst, .int kla, .int kbw, .int kbf, .int kbd, .ref kb, .ref kc])), (kb, .inl (cF, 6, .inr (.inr (.inl ksh)))), (kc, .inl (cF, 6, .inr (.inr (.inl ksb))))] H := hP
  have hD : va_D A [(la, .inr (1, [.int kst, .int kla, .int kbw, .int kbf, .int lbd, .ref lb, .ref lc])), (lb, .inl (cF, 6, .inr (.inr (.inl lsh)))), (lc, .inl (cF, 6, .inr (.inr (.inl lsb)))), (ka, .inr (1, [.int kst, .int kla, .int kbw, .int kbf, .int kbd, .ref kb, .ref kc])), (kb, .inl (cF, 6, .inr (.inr (.inl ksh)))), (kc, .inl (cF, 6, .inr (.inr (.inl ksb))))] := hD
  refine lv_aload_n hx hb dX1_copyFrom_32 rfl (lv_at hl 0 rfl) ?_
  refine lv_aload_n hx hb dX1_copyFrom_33 rfl (lv_at hl 1 rfl) ?_
  refine va_get (D := D) (ci := 1) (v := .int kbd) (C := RX1) (T := TX1) (N := 7) hx hb hts w0 hown hK hP 3 rfl rfl 4 (by decide) w5 (fun _ h9 => h9) rfl dX1_copyFrom_34 ?_
  refine va_put (D := D) (ci := 1) (v := .int kbd) (ty := .int) (C := RX1) (T := TX1) (N := 7) hx hb hts w0 tyX1 tyX1_ok nmX1 hown hK hP hD hS 0 rfl rfl 4 (by decide) w5 (fun _ h9 => h9) rfl (by decide +kernel) rfl rfl (Nat.le_of_ble_eq_true rfl) dX1_copyFrom_37 (fun H locs hP hD hS => ?_)
  have hP : va_P D vwCl [(la, .inr (1, [.int kst, .int kla, .int kbw, .int kbf, .int kbd, .ref lb, .ref lc])), (lb, .inl (cF, 6, .inr (.inr (.inl lsh)))), (lc, .inl (cF, 6, .inr (.inr (.inl lsb)))), (ka, .inr (1, [.int kst, .int kla, .int kbw, .int kbf, .int kbd, .ref kb, .ref kc])), (kb, .inl (cF, 6, .inr (.inr (.inl ksh)))), (kc, .inl (cF, 6, .inr (.inr (.inl ksb))))] H := hP
  have hD : va_D A [(la, .inr (1, [.int kst, .int kla, .int kbw, .int kbf, .int kbd, .ref lb, .ref lc])), (lb, .inl (cF, 6, .inr (.inr (.inl lsh)))), (lc, .inl (cF, 6, .inr (.inr (.inl lsb)))), (ka, .inr (1, [.int kst, .int kla, .int kbw, .int kbf, .int kbd, .ref kb, .ref kc])), (kb, .inl (cF, 6, .inr (.inr (.inl ksh)))), (kc, .inl (cF, 6, .inr (.inr (.inl ksb))))] := hD
  refine lv_aload_n hx hb dX1_copyFrom_40 rfl (lv_at hl 1 rfl) ?_
  refine va_get (D := D) (ci := 1) (v := .ref kb) (C := RX1) (T := TX1) (N := 7) hx hb hts w0 hown hK hP 3 rfl rfl 5 (by decide) w6 (fun _ h9 => h9) rfl dX1_copyFrom_41 ?_
  refine lv_iconst (v := 0) hx hb dX1_copyFrom_44 (by decide) ?_
  refine lv_aload_n hx hb dX1_copyFrom_45 rfl (lv_at hl 0 rfl) ?_
  refine va_get (D := D) (ci := 1) (v := .ref lb) (C := RX1) (T := TX1) (N := 7) hx hb hts w0 hown hK hP 0 rfl rfl 5 (by decide) w6 (fun _ h9 => h9) rfl dX1_copyFrom_46 ?_
  refine lv_iconst (v := 0) hx hb dX1_copyFrom_49 (by decide) ?_
  refine lv_bipush (v := 6) hx hb dX1_copyFrom_50 (by decide) ?_
  refine va_copyf hx hb (hml.trans hl.1.symm) hown w7 w8 w9 w10 hK hP hD hS 4 1 1 1 rfl rfl rfl rfl rfl (by decide) (by decide) (by decide) (by decide) (by decide) (fun _ _ => rfl) (Nat.le_of_ble_eq_true rfl) (Nat.le_of_ble_eq_true rfl) dX1_copyFrom_52 (fun H locs hP hD hS => ?_)
  have hP : va_P D vwCl [(la, .inr (1, [.int kst, .int kla, .int kbw, .int kbf, .int kbd, .ref lb, .ref lc])), (lb, .inl (cF, 6, .inr (.inr (.inl (va_cpy ksh lsh 0 0 6))))), (lc, .inl (cF, 6, .inr (.inr (.inl lsb)))), (ka, .inr (1, [.int kst, .int kla, .int kbw, .int kbf, .int kbd, .ref kb, .ref kc])), (kb, .inl (cF, 6, .inr (.inr (.inl ksh)))), (kc, .inl (cF, 6, .inr (.inr (.inl ksb))))] H := hP
  have hD : va_D A [(la, .inr (1, [.int kst, .int kla, .int kbw, .int kbf, .int kbd, .ref lb, .ref lc])), (lb, .inl (cF, 6, .inr (.inr (.inl (va_cpy ksh lsh 0 0 6))))), (lc, .inl (cF, 6, .inr (.inr (.inl lsb)))), (ka, .inr (1, [.int kst, .int kla, .int kbw, .int kbf, .int kbd, .ref kb, .ref kc])), (kb, .inl (cF, 6, .inr (.inr (.inl ksh)))), (kc, .inl (cF, 6, .inr (.inr (.inl ksb))))] := hD
  refine lv_aload_n hx hb dX1_copyFrom_55 rfl (lv_at hl 1 rfl) ?_
  refine va_get (D := D) (ci := 1) (v := .ref kc) (C := RX1) (T := TX1) (N := 7) hx hb hts w0 hown hK hP 3 rfl rfl 6 (by decide) w11 (fun _ h9 => h9) rfl dX1_copyFrom_56 ?_
  refine lv_iconst (v := 0) hx hb dX1_copyFrom_59 (by decide) ?_
  refine lv_aload_n hx hb dX1_copyFrom_60 rfl (lv_at hl 0 rfl) ?_
  refine va_get (D := D) (ci := 1) (v := .ref lc) (C := RX1) (T := TX1) (N := 7) hx hb hts w0 hown hK hP 0 rfl rfl 6 (by decide) w11 (fun _ h9 => h9) rfl dX1_copyFrom_61 ?_
  refine lv_iconst (v := 0) hx hb dX1_copyFrom_64 (by decide) ?_
  refine lv_bipush (v := 6) hx hb dX1_copyFrom_65 (by decide) ?_
  refine va_copyf hx hb (hml.trans hl.1.symm) hown w7 w8 w9 w10 hK hP hD hS 5 2 1 1 rfl rfl rfl rfl rfl (by decide) (by decide) (by decide) (by decide) (by decide) (fun _ _ => rfl) (Nat.le_of_ble_eq_true rfl) (Nat.le_of_ble_eq_true rfl) dX1_copyFrom_67 (fun H locs hP hD hS => ?_)
  have hP : va_P D vwCl [(la, .inr (1, [.int kst, .int kla, .int kbw, .int kbf, .int kbd, .ref lb, .ref lc])), (lb, .inl (cF, 6, .inr (.inr (.inl (va_cpy ksh lsh 0 0 6))))), (lc, .inl (cF, 6, .inr (.inr (.inl (va_cpy ksb lsb 0 0 6))))), (ka, .inr (1, [.int kst, .int kla, .int kbw, .int kbf, .int kbd, .ref kb, .ref kc])), (kb, .inl (cF, 6, .inr (.inr (.inl ksh)))), (kc, .inl (cF, 6, .inr (.inr (.inl ksb))))] H := hP
  have hD : va_D A [(la, .inr (1, [.int kst, .int kla, .int kbw, .int kbf, .int kbd, .ref lb, .ref lc])), (lb, .inl (cF, 6, .inr (.inr (.inl (va_cpy ksh lsh 0 0 6))))), (lc, .inl (cF, 6, .inr (.inr (.inl (va_cpy ksb lsb 0 0 6))))), (ka, .inr (1, [.int kst, .int kla, .int kbw, .int kbf, .int kbd, .ref kb, .ref kc])), (kb, .inl (cF, 6, .inr (.inr (.inl ksh)))), (kc, .inl (cF, 6, .inr (.inr (.inl ksb))))] := hD
  have h1 := Option.some.inj hf
  subst h1
  rw [hQ]
  exact W.vret hx hb hr (fun t ht hW => qEnd hP hS ht) hS.2.2 dX1_copyFrom_70
set_option maxRecDepth 100000 in
set_option maxHeartbeats 4000000 in
theorem c_X1_settle (l : Launch) (D : va_G) (B : Nat) (adK adV : Nat → Nat) (cC cF cI cZ cM cS : ClassId) (la : Nat) (lst : Int32) (lla : Int32) (lbw : Int32) (lbf : Int32) (lbd : Int32) (lb : Nat) (lc : Nat) (lsh : Nat → UInt32) (lsb : Nat → UInt32) (zz : (Nat → UInt32) × Int32 × Int32 × Int32) (hf : f_X1_settle lst lsh = some zz) : Ct l yX1_settle wsX1_settle { frames := 1, cells := 0, slots := 0, locals := 23 } D B adK adV (tysX cC cF cI cZ cM cS) [.ref la] [(la, .inr (1, [.int lst, .int lla, .int lbw, .int lbf, .int lbd, .ref lb, .ref lc])), (lb, .inl (cF, 6, .inr (.inr (.inl lsh)))), (lc, .inl (cF, 6, .inr (.inr (.inl lsb))))] [(la, .inr (1, [.int lst, .int lla, .int zz.2.1, .int zz.2.2.1, .int zz.2.2.2, .ref lb, .ref lc])), (lb, .inl (cF, 6, .inr (.inr (.inl zz.1)))), (lc, .inl (cF, 6, .inr (.inr (.inl lsb))))] none := by
  refine Ct.ofW (cc := cX1_settle) (maxL := 1) (ret := none) (by decide) rfl (Nat.le_of_ble_eq_true rfl) ?_
  intro p e s m args below meth c hx hb hr hml hts hown hlocks hnm hK hE A Q hQ hB H locs ls hP hD hS hl
  have hl : lv_has ls 1 [(0, .ref la)] := hl
  have w0 : ∀ w ∈ u_ws RX1 TX1 7, w ∈ wsX1_settle := by decide +kernel
  have w1 := hts (.fieldLink RX1 9 "MotionStates$Layer" "blendWay" "I") (by decide +kernel)
  have w2 := hts (.fieldLink RX1 28 "MotionStates$Layer" "blendFrames" "I") (by decide +kernel)
  have w3 := hts (.fieldLink RX1 31 "MotionStates$Layer" "blendDone" "I") (by decide +kernel)
  have w4 := hts (.fieldLink RX1 15 "MotionStates$Layer" "shares" "[F") (by decide +kernel)
  have w5 := hts (.fieldLink RX1 22 "MotionStates$Layer" "state" "I") (by decide +kernel)
  unfold f_X1_settle at hf
  refine lv_aload_n hx hb dX1_settle_0 rfl (lv_at hl 0 rfl) ?_
  refine lv_iconst (v := (-1)) hx hb dX1_settle_1 (by decide) ?_
  refine va_put (D := D) (ci := 1) (v := .int (-1)) (ty := .int) (C := RX1) (T := TX1) (N := 7) hx hb hts w0 tyX1 tyX1_ok nmX1 hown hK hP hD hS 0 rfl rfl 2 (by decide) w1 (fun _ h9 => h9) rfl (by decide +kernel) rfl rfl (Nat.le_of_ble_eq_true rfl) dX1_settle_2 (fun H locs hP hD hS => ?_)
  have hP : va_P D vwCl [(la, .inr (1, [.int lst, .int lla, .int (-1), .int lbf, .int lbd, .ref lb, .ref lc])), (lb, .inl (cF, 6, .inr (.inr (.inl lsh)))), (lc, .inl (cF, 6, .inr (.inr (.inl lsb))))] H := hP
  have hD : va_D A [(la, .inr (1, [.int lst, .int lla, .int (-1), .int lbf, .int lbd, .ref lb, .ref lc])), (lb, .inl (cF, 6, .inr (.inr (.inl lsh)))), (lc, .inl (cF, 6, .inr (.inr (.inl lsb))))] := hD
  refine lv_aload_n hx hb dX1_settle_5 rfl (lv_at hl 0 rfl) ?_
  refine lv_iconst (v := 0) hx hb dX1_settle_6 (by decide) ?_
  refine va_put (D := D) (ci := 1) (v := .int 0) (ty := .int) (C := RX1) (T := TX1) (N := 7) hx hb hts w0 tyX1 tyX1_ok nmX1 hown hK hP hD hS 0 rfl rfl 3 (by decide) w2 (fun _ h9 => h9) rfl (by decide +kernel) rfl rfl (Nat.le_of_ble_eq_true rfl) dX1_settle_7 (fun H locs hP hD hS => ?_)
  have hP : va_P D vwCl [(la, .inr (1, [.int lst, .int lla, .int (-1), .int 0, .int lbd, .ref lb, .ref lc])), (lb, .inl (cF, 6, .inr (.inr (.inl lsh)))), (lc, .inl (cF, 6, .inr (.inr (.inl lsb))))] H := hP
  have hD : va_D A [(la, .inr (1, [.int lst, .int lla, .int (-1), .int 0, .int lbd, .ref lb, .ref lc])), (lb, .inl (cF, 6, .inr (.inr (.inl lsh)))), (lc, .inl (cF, 6, .inr (.inr (.inl lsb))))] := hD
  refine lv_aload_n hx hb dX1_settle_10 rfl (lv_at hl 0 rfl) ?_
  refine lv_iconst (v := 0) hx hb dX1_settle_11 (by decide) ?_
  refine va_put (D := D) (ci := 1) (v := .int 0) (ty := .int) (C := RX1) (T := TX1) (N := 7) hx hb hts w0 tyX1 tyX1_ok nmX1 hown hK hP hD hS 0 rfl rfl 4 (by decide) w3 (fun _ h9 => h9) rfl (by decide +kernel) rfl rfl (Nat.le_of_ble_eq_true rfl) dX1_settle_12 (fun H locs hP hD hS => ?_)
  have hP : va_P D vwCl [(la, .inr (1, [.int lst, .int lla, .int (-1), .int 0, .int 0, .ref lb, .ref lc])), (lb, .inl (cF, 6, .inr (.inr (.inl lsh)))), (lc, .inl (cF, 6, .inr (.inr (.inl lsb))))] H := hP
  have hD : va_D A [(la, .inr (1, [.int lst, .int lla, .int (-1), .int 0, .int 0, .ref lb, .ref lc])), (lb, .inl (cF, 6, .inr (.inr (.inl lsh)))), (lc, .inl (cF, 6, .inr (.inr (.inl lsb))))] := hD
  refine lv_aload_n hx hb dX1_settle_15 rfl (lv_at hl 0 rfl) ?_
  refine va_get (D := D) (ci := 1) (v := .ref lb) (C := RX1) (T := TX1) (N := 7) hx hb hts w0 hown hK hP 0 rfl rfl 5 (by decide) w4 (fun _ h9 => h9) rfl dX1_settle_16 ?_
  refine lv_fconst0 hx hb dX1_settle_19 ?_
  obtain ⟨o1, hc2, hf⟩ := bd_inv hf
  refine xcS (As := [.ref lb, .float FP.fconst0]) (rest := []) (ws' := [(la, .inr (1, [.int lst, .int lla, .int (-1), .int 0, .int 0, .ref lb, .ref lc])), (lb, .inl (cF, 6, .inr (.inr (.inl o1)))), (lc, .inl (cF, 6, .inr (.inr (.inl lsb))))]) ⟨hx, hb, hml, hown, hts⟩ (c_J7_fill_e525d l D B adK adV cC cF cI cZ cM cS lb lsh 6 FP.fconst0  o1 hc2) (va_cwS 2 hts gX1_settle_J7_fill_e525d rfl rfl rfl (by decide +kernel) ⟨Nat.le_of_ble_eq_true rfl, Nat.le_of_ble_eq_true rfl⟩) hK hP hD hS hB hE [1] rfl rfl rfl rfl rfl hl.1 rfl (Nat.le_of_ble_eq_true rfl) dX1_settle_20 ⟨Nat.le_of_ble_eq_true rfl, Nat.le_of_ble_eq_true rfl⟩ (fun H locs hP hD hS => ?_)
  refine W.eq (g2 := F0 m 23 ls []) rfl ?_
  refine lv_aload_n hx hb dX1_settle_23 rfl (lv_at hl 0 rfl) ?_
  refine va_get (D := D) (ci := 1) (v := .ref lb) (C := RX1) (T := TX1) (N := 7) hx hb hts w0 hown hK hP 0 rfl rfl 5 (by decide) w4 (fun _ h9 => h9) rfl dX1_settle_24 ?_
  refine lv_aload_n hx hb dX1_settle_27 rfl (lv_at hl 0 rfl) ?_
  refine va_get (D := D) (ci := 1) (v := .int lst) (C := RX1) (T := TX1) (N := 7) hx hb hts w0 hown hK hP 0 rfl rfl 0 (by decide) w5 (fun _ h9 => h9) rfl dX1_settle_28 ?_
  refine lv_fconst1 hx hb dX1_settle_31 ?_
  obtain ⟨g3, hf⟩ := gd_inv hf
  refine va_fast hx hb hK hP hD hS 1 1 rfl rfl g3 dX1_settle_32 (fun H locs hP hD hS => ?_)
  have hP : va_P D vwCl [(la, .inr (1, [.int lst, .int lla, .int (-1), .int 0, .int 0, .ref lb, .ref lc])), (lb, .inl (cF, 6, .inr (.inr (.inl (vf_upd o1 lst.toNatClampNeg FP.fconst1))))), (lc, .inl (cF, 6, .inr (.inr (.inl lsb))))] H := hP
  have hD : va_D A [(la, .inr (1, [.int lst, .int lla, .int (-1), .int 0, .int 0, .ref lb, .ref lc])), (lb, .inl (cF, 6, .inr (.inr (.inl (vf_upd o1 lst.toNatClampNeg FP.fconst1))))), (lc, .inl (cF, 6, .inr (.inr (.inl lsb))))] := hD
  have h1 := Option.some.inj hf
  subst h1
  rw [hQ]
  exact W.vret hx hb hr (fun t ht hW => qEnd hP hS ht) hS.2.2 dX1_settle_33
set_option maxRecDepth 100000 in
set_option maxHeartbeats 4000000 in
theorem c_X1_reset (l : Launch) (D : va_G) (B : Nat) (adK adV : Nat → Nat) (cC cF cI cZ cM cS : ClassId) (la : Nat) (lst : Int32) (lla : Int32) (lbw : Int32) (lbf : Int32) (lbd : Int32) (lb : Nat) (lc : Nat) (lsh : Nat → UInt32) (lsb : Nat → UInt32) (zz : (Nat → UInt32) × Int32 × Int32 × Int32 × Int32 × Int32) (hf : f_X1_reset lsh = some zz) : Ct l yX1_reset wsX1_reset { frames := 2, cells := 0, slots := 0, locals := 43 } D B adK adV (tysX cC cF cI cZ cM cS) [.ref la] [(la, .inr (1, [.int lst, .int lla, .int lbw, .int lbf, .int lbd, .ref lb, .ref lc])), (lb, .inl (cF, 6, .inr (.inr (.inl lsh)))), (lc, .inl (cF, 6, .inr (.inr (.inl lsb))))] [(la, .inr (1, [.int zz.2.1, .int zz.2.2.1, .int zz.2.2.2.1, .int zz.2.2.2.2.1, .int zz.2.2.2.2.2, .ref lb, .ref lc])), (lb, .inl (cF, 6, .inr (.inr (.inl zz.1)))), (lc, .inl (cF, 6, .inr (.inr (.inl lsb))))] none := by
  refine Ct.ofW (cc := cX1_reset) (maxL := 1) (ret := none) (by decide) rfl (Nat.le_of_ble_eq_true rfl) ?_
  intro p e s m args below meth c hx hb hr hml hts hown hlocks hnm hK hE A Q hQ hB H locs ls hP hD hS hl
  have hl : lv_has ls 1 [(0, .ref la)] := hl
  have w0 : ∀ w ∈ u_ws RX1 TX1 7, w ∈ wsX1_reset := by decide +kernel
  have w1 := hts (.fieldLink RX1 22 "MotionStates$Layer" "state" "I") (by decide +kernel)
  have w2 := hts (.fieldLink RX1 25 "MotionStates$Layer" "lasted" "I") (by decide +kernel)
  unfold f_X1_reset at hf
  refine lv_aload_n hx hb dX1_reset_0 rfl (lv_at hl 0 rfl) ?_
  refine lv_iconst (v := 0) hx hb dX1_reset_1 (by decide) ?_
  refine va_put (D := D) (ci := 1) (v := .int 0) (ty := .int) (C := RX1) (T := TX1) (N := 7) hx hb hts w0 tyX1 tyX1_ok nmX1 hown hK hP hD hS 0 rfl rfl 0 (by decide) w1 (fun _ h9 => h9) rfl (by decide +kernel) rfl rfl (Nat.le_of_ble_eq_true rfl) dX1_reset_2 (fun H locs hP hD hS => ?_)
  have hP : va_P D vwCl [(la, .inr (1, [.int 0, .int lla, .int lbw, .int lbf, .int lbd, .ref lb, .ref lc])), (lb, .inl (cF, 6, .inr (.inr (.inl lsh)))), (lc, .inl (cF, 6, .inr (.inr (.inl lsb))))] H := hP
  have hD : va_D A [(la, .inr (1, [.int 0, .int lla, .int lbw, .int lbf, .int lbd, .ref lb, .ref lc])), (lb, .inl (cF, 6, .inr (.inr (.inl lsh)))), (lc, .inl (cF, 6, .inr (.inr (.inl lsb))))] := hD
  refine lv_aload_n hx hb dX1_reset_5 rfl (lv_at hl 0 rfl) ?_
  refine lv_iconst (v := 0) hx hb dX1_reset_6 (by decide) ?_
  refine va_put (D := D) (ci := 1) (v := .int 0) (ty := .int) (C := RX1) (T := TX1) (N := 7) hx hb hts w0 tyX1 tyX1_ok nmX1 hown hK hP hD hS 0 rfl rfl 1 (by decide) w2 (fun _ h9 => h9) rfl (by decide +kernel) rfl rfl (Nat.le_of_ble_eq_true rfl) dX1_reset_7 (fun H locs hP hD hS => ?_)
  have hP : va_P D vwCl [(la, .inr (1, [.int 0, .int 0, .int lbw, .int lbf, .int lbd, .ref lb, .ref lc])), (lb, .inl (cF, 6, .inr (.inr (.inl lsh)))), (lc, .inl (cF, 6, .inr (.inr (.inl lsb))))] H := hP
  have hD : va_D A [(la, .inr (1, [.int 0, .int 0, .int lbw, .int lbf, .int lbd, .ref lb, .ref lc])), (lb, .inl (cF, 6, .inr (.inr (.inl lsh)))), (lc, .inl (cF, 6, .inr (.inr (.inl lsb))))] := hD
  refine lv_aload_n hx hb dX1_reset_10 rfl (lv_at hl 0 rfl) ?_
  obtain ⟨⟨o1, o2, o3, o4⟩, hc5, hf⟩ := bd_inv hf
  refine xcV (As := []) (rest := []) (ws' := [(la, .inr (1, [.int 0, .int 0, .int o2, .int o3, .int o4, .ref lb, .ref lc])), (lb, .inl (cF, 6, .inr (.inr (.inl o1)))), (lc, .inl (cF, 6, .inr (.inr (.inl lsb))))]) ⟨hx, hb, hml, hown, hts⟩ (c_X1_settle l D B adK adV cC cF cI cZ cM cS la 0 0 lbw lbf lbd lb lc lsh lsb  (o1, o2, o3, o4) hc5) (cwV 0 hts gX1_reset_X1_settle rfl rfl rfl (by decide +kernel) ⟨Nat.le_of_ble_eq_true rfl, Nat.le_of_ble_eq_true rfl⟩) (va_recv hK hP (ci := 1) (q0 := 0) rfl rfl) hK hP hD hS hB hE [0, 1, 2] rfl rfl rfl rfl rfl hl.1 rfl (Nat.le_of_ble_eq_true rfl) dX1_reset_11 ⟨Nat.le_of_ble_eq_true rfl, Nat.le_of_ble_eq_true rfl⟩ (fun H locs hP hD hS => ?_)
  refine W.eq (g2 := F0 m 14 ls []) rfl ?_
  have h1 := Option.some.inj hf
  subst h1
  rw [hQ]
  exact W.vret hx hb hr (fun t ht hW => qEnd hP hS ht) hS.2.2 dX1_reset_14
set_option maxRecDepth 100000 in
set_option maxHeartbeats 4000000 in
theorem c_X1_isSteady (l : Launch) (D : va_G) (B : Nat) (adK adV : Nat → Nat) (cC cF cI cZ cM cS : ClassId) (la : Nat) (lst : Int32) (lla : Int32) (lbw : Int32) (lbf : Int32) (lbd : Int32) (lb : Nat) (lc : Nat) (lsh : Nat → UInt32) (lsb : Nat → UInt32) (zz : Int32) (hf : f_X1_isSteady lbw = some zz) : Ct l yX1_isSteady wsX1_isSteady { frames := 0, cells := 0, slots := 0, locals := 0 } D B adK adV (tysX cC cF cI cZ cM cS) [.ref la] [(la, .inr (1, [.int lst, .int lla, .int lbw, .int lbf, .int lbd, .ref lb, .ref lc])), (lb, .inl (cF, 6, .inr (.inr (.inl lsh)))), (lc, .inl (cF, 6, .inr (.inr (.inl lsb))))] [(la, .inr (1, [.int lst, .int lla, .int lbw, .int lbf, .int lbd, .ref lb, .ref lc])), (lb, .inl (cF, 6, .inr (.inr (.inl lsh)))), (lc, .inl (cF, 6, .inr (.inr (.inl lsb))))] (some (.int zz)) := by
  refine Ct.ofW (cc := cX1_isSteady) (maxL := 1) (ret := (some .boolean)) (by decide) rfl (Nat.le_of_ble_eq_true rfl) ?_
  intro p e s m args below meth c hx hb hr hml hts hown hlocks hnm hK hE A Q hQ hB H locs ls hP hD hS hl
  have hl : lv_has ls 1 [(0, .ref la)] := hl
  have w0 : ∀ w ∈ u_ws RX1 TX1 7, w ∈ wsX1_isSteady := by decide +kernel
  have w1 := hts (.fieldLink RX1 9 "MotionStates$Layer" "blendWay" "I") (by decide +kernel)
  unfold f_X1_isSteady at hf
  refine lv_aload_n hx hb dX1_isSteady_0 rfl (lv_at hl 0 rfl) ?_
  refine va_get (D := D) (ci := 1) (v := .int lbw) (C := RX1) (T := TX1) (N := 7) hx hb hts w0 hown hK hP 0 rfl rfl 2 (by decide) w1 (fun _ h9 => h9) rfl dX1_isSteady_1 ?_
  refine lv_iconst (v := (-1)) hx hb dX1_isSteady_4 (by decide) ?_
  refine lv_icmp_ne (tgt := 12) hx hb dX1_isSteady_5 (by decide) (fun c1 => ?_) (fun c1 => ?_)
  · have hf := if_n c1 hf
    refine lv_iconst (v := 0) hx hb dX1_isSteady_12 (by decide) ?_
    have h1 := Option.some.inj hf
    subst h1
    rw [hQ]
    exact W.zret (v := 0) (ty := .boolean) hx hb hr rfl (fun t ht hW => qEnd hP hS ht) hS.2.2 dX1_isSteady_13
  · have hf := if_p c1 hf
    refine lv_iconst (v := 1) hx hb dX1_isSteady_8 (by decide) ?_
    refine lv_goto (tgt := 13) hx hb dX1_isSteady_9 (by decide) ?_
    have h1 := Option.some.inj hf
    subst h1
    rw [hQ]
    exact W.zret (v := 1) (ty := .boolean) hx hb hr rfl (fun t ht hW => qEnd hP hS ht) hS.2.2 dX1_isSteady_13
set_option maxRecDepth 100000 in
set_option maxHeartbeats 4000000 in
theorem c_X1_part (l : Launch) (D : va_G) (B : Nat) (adK adV : Nat → Nat) (cC cF cI cZ cM cS : ClassId) (la : Nat) (lst : Int32) (lla : Int32) (lbw : Int32) (lbf : Int32) (lbd : Int32) (lb : Nat) (lc : Nat) (lsh : Nat → UInt32) (lsb : Nat → UInt32) (k : Int32) (zz : Int32) (hf : f_X1_part lst lla lbw lbf lbd k = some zz) : Ct l yX1_part wsX1_part { frames := 1, cells := 0, slots := 0, locals := 20 } D B adK adV (tysX cC cF cI cZ cM cS) [.ref la, .int k] [(la, .inr (1, [.int lst, .int lla, .int lbw, .int lbf, .int lbd, .ref lb, .ref lc])), (lb, .inl (cF, 6, .inr (.inr (.inl lsh)))), (lc, .inl (cF, 6, .inr (.inr (.inl lsb))))] [(la, .inr (1, [.int lst, .int lla, .int lbw, .int lbf, .int lbd, .ref lb, .ref lc])), (lb, .inl (cF, 6, .inr (.inr (.inl lsh)))), (lc, .inl (cF, 6, .inr (.inr (.inl lsb))))] (some (.int zz)) := by
  refine Ct.ofW (cc := cX1_part) (maxL := 2) (ret := (some .int)) (by decide) rfl (Nat.le_of_ble_eq_true rfl) ?_
  intro p e s m args below meth c hx hb hr hml hts hown hlocks hnm hK hE A Q hQ hB H locs ls hP hD hS hl
  have hl : lv_has ls 2 [(0, .ref la), (1, .int k)] := hl
  have w0 : ∀ w ∈ u_ws RX1 TX1 7, w ∈ wsX1_part := by decide +kernel
  have w1 := hts (.fieldLink RX1 22 "MotionStates$Layer" "state" "I") (by decide +kernel)
  have w2 := hts (.fieldLink RX1 25 "MotionStates$Layer" "lasted" "I") (by decide +kernel)
  have w3 := hts (.fieldLink RX1 28 "MotionStates$Layer" "blendFrames" "I") (by decide +kernel)
  have w4 := hts (.fieldLink RX1 31 "MotionStates$Layer" "blendDone" "I") (by decide +kernel)
  have w5 := hts (.fieldLink RX1 9 "MotionStates$Layer" "blendWay" "I") (by decide +kernel)
  unfold f_X1_part at hf
  refine lv_iload_n hx hb dX1_part_0 rfl (lv_at hl 1 rfl) ?_
  by_cases c1 : k = 0
  · have hf := if_p c1 hf
    refine lv_tableIn (off := 35) (tgt := 36) hx hb dX1_part_1 (by rw [c1]; decide) (by rw [c1]; decide) (by rw [c1]; decide) (by decide) ?_
    refine lv_aload_n hx hb dX1_part_36 rfl (lv_at hl 0 rfl) ?_
    refine va_get (D := D) (ci := 1) (v := .int lst) (C := RX1) (T := TX1) (N := 7) hx hb hts w0 hown hK hP 0 rfl rfl 0 (by decide) w1 (fun _ h9 => h9) rfl dX1_part_37 ?_
    have h1 := Option.some.inj hf
    subst h1
    rw [hQ]
    exact W.iret (v := lst) hx hb hr (fun t ht hW => qEnd hP hS ht) hS.2.2 dX1_part_40
  · have hf := if_n c1 hf
    by_cases c2 : k = 1
    · have hf := if_p c2 hf
      refine lv_tableIn (off := 40) (tgt := 41) hx hb dX1_part_1 (by rw [c2]; decide) (by rw [c2]; decide) (by rw [c2]; decide) (by decide) ?_
      refine lv_aload_n hx hb dX1_part_41 rfl (lv_at hl 0 rfl) ?_
      refine va_get (D := D) (ci := 1) (v := .int lla) (C := RX1) (T := TX1) (N := 7) hx hb hts w0 hown hK hP 0 rfl rfl 1 (by decide) w2 (fun _ h9 => h9) rfl dX1_part_42 ?_
      have h1 := Option.some.inj hf
      subst h1
      rw [hQ]
      exact W.iret (v := lla) hx hb hr (fun t ht hW => qEnd hP hS ht) hS.2.2 dX1_part_45
    · have hf := if_n c2 hf
      by_cases c3 : k = 2
      · have hf := if_p c3 hf
        refine lv_tableIn (off := 45) (tgt := 46) hx hb dX1_part_1 (by rw [c3]; decide) (by rw [c3]; decide) (by rw [c3]; decide) (by decide) ?_
        refine lv_aload_n hx hb dX1_part_46 rfl (lv_at hl 0 rfl) ?_
        refine va_get (D := D) (ci := 1) (v := .int lbf) (C := RX1) (T := TX1) (N := 7) hx hb hts w0 hown hK hP 0 rfl rfl 3 (by decide) w3 (fun _ h9 => h9) rfl dX1_part_47 ?_
        have h1 := Option.some.inj hf
        subst h1
        rw [hQ]
        exact W.iret (v := lbf) hx hb hr (fun t ht hW => qEnd hP hS ht) hS.2.2 dX1_part_50
      · have hf := if_n c3 hf
        by_cases c4 : k = 3
        · have hf := if_p c4 hf
          refine lv_tableIn (off := 50) (tgt := 51) hx hb dX1_part_1 (by rw [c4]; decide) (by rw [c4]; decide) (by rw [c4]; decide) (by decide) ?_
          refine lv_aload_n hx hb dX1_part_51 rfl (lv_at hl 0 rfl) ?_
          refine va_get (D := D) (ci := 1) (v := .int lbd) (C := RX1) (T := TX1) (N := 7) hx hb hts w0 hown hK hP 0 rfl rfl 4 (by decide) w4 (fun _ h9 => h9) rfl dX1_part_52 ?_
          have h1 := Option.some.inj hf
          subst h1
          rw [hQ]
          exact W.iret (v := lbd) hx hb hr (fun t ht hW => qEnd hP hS ht) hS.2.2 dX1_part_55
        · have hf := if_n c4 hf
          by_cases c5 : k = 4
          · have hf := if_p c5 hf
            refine lv_tableIn (off := 55) (tgt := 56) hx hb dX1_part_1 (by rw [c5]; decide) (by rw [c5]; decide) (by rw [c5]; decide) (by decide) ?_
            refine lv_aload_n hx hb dX1_part_56 rfl (lv_at hl 0 rfl) ?_
            obtain ⟨r6, hc7, hf⟩ := bd_inv hf
            refine xcV (As := []) (rest := []) (ws' := [(la, .inr (1, [.int lst, .int lla, .int lbw, .int lbf, .int lbd, .ref lb, .ref lc])), (lb, .inl (cF, 6, .inr (.inr (.inl lsh)))), (lc, .inl (cF, 6, .inr (.inr (.inl lsb))))]) ⟨hx, hb, hml, hown, hts⟩ (c_X1_isSteady l D B adK adV cC cF cI cZ cM cS la lst lla lbw lbf lbd lb lc lsh lsb  r6 hc7) (cwV 0 hts gX1_part_X1_isSteady rfl rfl rfl (by decide +kernel) ⟨Nat.le_of_ble_eq_true rfl, Nat.le_of_ble_eq_true rfl⟩) (va_recv hK hP (ci := 1) (q0 := 0) rfl rfl) hK hP hD hS hB hE [0, 1, 2] rfl rfl rfl rfl rfl hl.1 rfl (Nat.le_of_ble_eq_true rfl) dX1_part_57 ⟨Nat.le_of_ble_eq_true rfl, Nat.le_of_ble_eq_true rfl⟩ (fun H locs hP hD hS => ?_)
            refine W.eq (g2 := F0 m 60 ls [.int r6]) rfl ?_
            refine lv_if_eq (tgt := 67) hx hb dX1_part_60 (by decide) (fun c8 => ?_) (fun c8 => ?_)
            · have hf := if_p c8 hf
              refine lv_iconst (v := 0) hx hb dX1_part_67 (by decide) ?_
              have h1 := Option.some.inj hf
              subst h1
              rw [hQ]
              exact W.iret (v := 0) hx hb hr (fun t ht hW => qEnd hP hS ht) hS.2.2 dX1_part_68
            · have hf := if_n c8 hf
              refine lv_iconst (v := 1) hx hb dX1_part_63 (by decide) ?_
              refine lv_goto (tgt := 68) hx hb dX1_part_64 (by decide) ?_
              have h1 := Option.some.inj hf
              subst h1
              rw [hQ]
              exact W.iret (v := 1) hx hb hr (fun t ht hW => qEnd hP hS ht) hS.2.2 dX1_part_68
          · have hf := if_n c5 hf
            refine lv_tableOut (tgt := 69) hx hb dX1_part_1 (by have h0 := lv_neT c1 (a := 0) rfl; have h1 := lv_neT c2 (a := 1) rfl; have h2 := lv_neT c3 (a := 2) rfl; have h3 := lv_neT c4 (a := 3) rfl; have h4 := lv_neT c5 (a := 4) rfl; omega) (by decide) ?_
            refine lv_aload_n hx hb dX1_part_69 rfl (lv_at hl 0 rfl) ?_
            refine va_get (D := D) (ci := 1) (v := .int lbw) (C := RX1) (T := TX1) (N := 7) hx hb hts w0 hown hK hP 0 rfl rfl 2 (by decide) w5 (fun _ h9 => h9) rfl dX1_part_70 ?_
            have h1 := Option.some.inj hf
            subst h1
            rw [hQ]
            exact W.iret (v := lbw) hx hb hr (fun t ht hW => qEnd hP hS ht) hS.2.2 dX1_part_73
set_option maxRecDepth 100000 in
set_option maxHeartbeats 4000000 in
theorem c_X2_isTriggered (l : Launch) (D : va_G) (B : Nat) (adK adV : Nat → Nat) (cC cF cI cZ cM cS : ClassId) (ma : Nat) (mla : Nat) (mua : Nat) (mn : Nat) (mtr : Int32) (mnm : Nat → Int32) (i : Int32) (zz : Int32) (hf : f_X2_isTriggered mtr i = some zz) : Ct l yX2_isTriggered wsX2_isTriggered { frames := 0, cells := 0, slots := 0, locals := 0 } D B adK adV (tysX cC cF cI cZ cM cS) [.ref ma, .int i] [(ma, .inr (2, [.ref mla, .ref mua, .ref mn, .int mtr])), (mn, .inl (cI, 3, .inl mnm))] [(ma, .inr (2, [.ref mla, .ref mua, .ref mn, .int mtr])), (mn, .inl (cI, 3, .inl mnm))] (some (.int zz)) := by
  refine Ct.ofW (cc := cX2_isTriggered) (maxL := 2) (ret := (some .boolean)) (by decide) rfl (Nat.le_of_ble_eq_true rfl) ?_
  intro p e s m args below meth c hx hb hr hml hts hown hlocks hnm hK hE A Q hQ hB H locs ls hP hD hS hl
  have hl : lv_has ls 2 [(0, .ref ma), (1, .int i)] := hl
  have w0 : ∀ w ∈ u_ws RX2 TX2 4, w ∈ wsX2_isTriggered := by decide +kernel
  have w1 := hts (.fieldLink RX2 35 "MotionStates$Motion" "triggers" "I") (by decide +kernel)
  unfold f_X2_isTriggered at hf
  refine lv_aload_n hx hb dX2_isTriggered_0 rfl (lv_at hl 0 rfl) ?_
  refine va_get (D := D) (ci := 2) (v := .int mtr) (C := RX2) (T := TX2) (N := 4) hx hb hts w0 hown hK hP 0 rfl rfl 3 (by decide) w1 (fun _ h9 => h9) rfl dX2_isTriggered_1 ?_
  refine lv_iload_n hx hb dX2_isTriggered_4 rfl (lv_at hl 1 rfl) ?_
  refine lv_ishr hx hb dX2_isTriggered_5 ?_
  refine lv_iconst (v := 1) hx hb dX2_isTriggered_6 (by decide) ?_
  refine lv_iand hx hb dX2_isTriggered_7 ?_
  refine lv_iconst (v := 1) hx hb dX2_isTriggered_8 (by decide) ?_
  refine lv_icmp_ne (tgt := 16) hx hb dX2_isTriggered_9 (by decide) (fun c1 => ?_) (fun c1 => ?_)
  · have hf := if_n c1 hf
    refine lv_iconst (v := 0) hx hb dX2_isTriggered_16 (by decide) ?_
    have h1 := Option.some.inj hf
    subst h1
    rw [hQ]
    exact W.zret (v := 0) (ty := .boolean) hx hb hr rfl (fun t ht hW => qEnd hP hS ht) hS.2.2 dX2_isTriggered_17
  · have hf := if_p c1 hf
    refine lv_iconst (v := 1) hx hb dX2_isTriggered_12 (by decide) ?_
    refine lv_goto (tgt := 17) hx hb dX2_isTriggered_13 (by decide) ?_
    have h1 := Option.some.inj hf
    subst h1
    rw [hQ]
    exact W.zret (v := 1) (ty := .boolean) hx hb hr rfl (fun t ht hW => qEnd hP hS ht) hS.2.2 dX2_isTriggered_17
set_option maxRecDepth 100000 in
set_option maxHeartbeats 4000000 in
theorem c_X2_trigger (l : Launch) (D : va_G) (B : Nat) (adK adV : Nat → Nat) (cC cF cI cZ cM cS : ClassId) (ma : Nat) (mla : Nat) (mua : Nat) (mn : Nat) (mtr : Int32) (mnm : Nat → Int32) (i : Int32) (zz : Int32) (hf : f_X2_trigger mtr i = some zz) : Ct l yX2_trigger wsX2_trigger { frames := 0, cells := 0, slots := 0, locals := 0 } D B adK adV (tysX cC cF cI cZ cM cS) [.ref ma, .int i] [(ma, .inr (2, [.ref mla, .ref mua, .ref mn, .int mtr])), (mn, .inl (cI, 3, .inl mnm))] [(ma, .inr (2, [.ref mla, .ref mua, .ref mn, .int zz])), (mn, .inl (cI, 3, .inl mnm))] none := by
  refine Ct.ofW (cc := cX2_trigger) (maxL := 2) (ret := none) (by decide) rfl (Nat.le_of_ble_eq_true rfl) ?_
  intro p e s m args below meth c hx hb hr hml hts hown hlocks hnm hK hE A Q hQ hB H locs ls hP hD hS hl
  have hl : lv_has ls 2 [(0, .ref ma), (1, .int i)] := hl
  have w0 : ∀ w ∈ u_ws RX2 TX2 4, w ∈ wsX2_trigger := by decide +kernel
  have w1 := hts (.fieldLink RX2 35 "MotionStates$Motion" "triggers" "I") (by decide +kernel)
  unfold f_X2_trigger at hf
  refine lv_aload_n hx hb dX2_trigger_0 rfl (lv_at hl 0 rfl) ?_
  refine lv_dup hx hb dX2_trigger_1 rfl ?_
  refine va_get (D := D) (ci := 2) (v := .int mtr) (C := RX2) (T := TX2) (N := 4) hx hb hts w0 hown hK hP 0 rfl rfl 3 (by decide) w1 (fun _ h9 => h9) rfl dX2_trigger_2 ?_
  refine lv_iconst (v := 1) hx hb dX2_trigger_5 (by decide) ?_
  refine lv_iload_n hx hb dX2_trigger_6 rfl (lv_at hl 1 rfl) ?_
  refine lv_ishl hx hb dX2_trigger_7 ?_
  refine lv_ior hx hb dX2_trigger_8 ?_
  refine va_put (D := D) (ci := 2) (v := .int (mtr ||| ((1 : Int32) <<< (i &&& 31)))) (ty := .int) (C := RX2) (T := TX2) (N := 4) hx hb hts w0 tyX2 tyX2_ok nmX2 hown hK hP hD hS 0 rfl rfl 3 (by decide) w1 (fun _ h9 => h9) rfl (by decide +kernel) rfl rfl (Nat.le_of_ble_eq_true rfl) dX2_trigger_9 (fun H locs hP hD hS => ?_)
  have hP : va_P D vwCl [(ma, .inr (2, [.ref mla, .ref mua, .ref mn, .int (mtr ||| ((1 : Int32) <<< (i &&& 31)))])), (mn, .inl (cI, 3, .inl mnm))] H := hP
  have hD : va_D A [(ma, .inr (2, [.ref mla, .ref mua, .ref mn, .int (mtr ||| ((1 : Int32) <<< (i &&& 31)))])), (mn, .inl (cI, 3, .inl mnm))] := hD
  have h1 := Option.some.inj hf
  subst h1
  rw [hQ]
  exact W.vret hx hb hr (fun t ht hW => qEnd hP hS ht) hS.2.2 dX2_trigger_12
set_option maxRecDepth 100000 in
set_option maxHeartbeats 4000000 in
theorem c_X2_release (l : Launch) (D : va_G) (B : Nat) (adK adV : Nat → Nat) (cC cF cI cZ cM cS : ClassId) (ma : Nat) (mla : Nat) (mua : Nat) (mn : Nat) (mtr : Int32) (mnm : Nat → Int32) (i : Int32) (zz : Int32) (hf : f_X2_release mtr i = some zz) : Ct l yX2_release wsX2_release { frames := 0, cells := 0, slots := 0, locals := 0 } D B adK adV (tysX cC cF cI cZ cM cS) [.ref ma, .int i] [(ma, .inr (2, [.ref mla, .ref mua, .ref mn, .int mtr])), (mn, .inl (cI, 3, .inl mnm))] [(ma, .inr (2, [.ref mla, .ref mua, .ref mn, .int zz])), (mn, .inl (cI, 3, .inl mnm))] none := by
  refine Ct.ofW (cc := cX2_release) (maxL := 2) (ret := none) (by decide) rfl (Nat.le_of_ble_eq_true rfl) ?_
  intro p e s m args below meth c hx hb hr hml hts hown hlocks hnm hK hE A Q hQ hB H locs ls hP hD hS hl
  have hl : lv_has ls 2 [(0, .ref ma), (1, .int i)] := hl
  have w0 : ∀ w ∈ u_ws RX2 TX2 4, w ∈ wsX2_release := by decide +kernel
  have w1 := hts (.fieldLink RX2 35 "MotionStates$Motion" "triggers" "I") (by decide +kernel)
  unfold f_X2_release at hf
  refine lv_aload_n hx hb dX2_release_0 rfl (lv_at hl 0 rfl) ?_
  refine lv_dup hx hb dX2_release_1 rfl ?_
  refine va_get (D := D) (ci := 2) (v := .int mtr) (C := RX2) (T := TX2) (N := 4) hx hb hts w0 hown hK hP 0 rfl rfl 3 (by decide) w1 (fun _ h9 => h9) rfl dX2_release_2 ?_
  refine lv_iconst (v := 1) hx hb dX2_release_5 (by decide) ?_
  refine lv_iload_n hx hb dX2_release_6 rfl (lv_at hl 1 rfl) ?_
  refine lv_ishl hx hb dX2_release_7 ?_
  refine lv_iconst (v := (-1)) hx hb dX2_release_8 (by decide) ?_
  refine lv_ixor hx hb dX2_release_9 ?_
  refine lv_iand hx hb dX2_release_10 ?_
  refine va_put (D := D) (ci := 2) (v := .int (mtr &&& (((1 : Int32) <<< (i &&& 31)) ^^^ (-1)))) (ty := .int) (C := RX2) (T := TX2) (N := 4) hx hb hts w0 tyX2 tyX2_ok nmX2 hown hK hP hD hS 0 rfl rfl 3 (by decide) w1 (fun _ h9 => h9) rfl (by decide +kernel) rfl rfl (Nat.le_of_ble_eq_true rfl) dX2_release_11 (fun H locs hP hD hS => ?_)
  have hP : va_P D vwCl [(ma, .inr (2, [.ref mla, .ref mua, .ref mn, .int (mtr &&& (((1 : Int32) <<< (i &&& 31)) ^^^ (-1)))])), (mn, .inl (cI, 3, .inl mnm))] H := hP
  have hD : va_D A [(ma, .inr (2, [.ref mla, .ref mua, .ref mn, .int (mtr &&& (((1 : Int32) <<< (i &&& 31)) ^^^ (-1)))])), (mn, .inl (cI, 3, .inl mnm))] := hD
  have h1 := Option.some.inj hf
  subst h1
  rw [hQ]
  exact W.vret hx hb hr (fun t ht hW => qEnd hP hS ht) hS.2.2 dX2_release_14
set_option maxRecDepth 100000 in
set_option maxHeartbeats 4000000 in
theorem c_X1_holds (l : Launch) (D : va_G) (B : Nat) (adK adV : Nat → Nat) (cC cF cI cZ cM cS : ClassId) (la : Nat) (lst : Int32) (lla : Int32) (lbw : Int32) (lbf : Int32) (lbd : Int32) (lb : Nat) (lc : Nat) (lsh : Nat → UInt32) (lsb : Nat → UInt32) (fa : Nat) (fst : Int32) (fb : Nat) (fwy : Int32) (fc : Nat) (fmk : Int32) (fwt : Int32) (fvl : Nat → Int32) (fpt : Nat → Int32) (ma : Nat) (mla : Nat) (mua : Nat) (mn : Nat) (mtr : Int32) (mnm : Nat → Int32) (i : Int32) (zz : Int32) (hf : f_X1_holds lla fpt mtr mnm i = some zz) : Ct l yX1_holds wsX1_holds { frames := 1, cells := 0, slots := 0, locals := 22 } D B adK adV (tysX cC cF cI cZ cM cS) [.ref la, .ref fa, .int i, .ref ma] [(la, .inr (1, [.int lst, .int lla, .int lbw, .int lbf, .int lbd, .ref lb, .ref lc])), (lb, .inl (cF, 6, .inr (.inr (.inl lsh)))), (lc, .inl (cF, 6, .inr (.inr (.inl lsb)))), (fa, .inr (0, [.int fst, .ref fb, .int fwy, .ref fc, .int fmk, .int fwt])), (fb, .inl (cI, 24, .inl fvl)), (fc, .inl (cI, 84, .inl fpt)), (ma, .inr (2, [.ref mla, .ref mua, .ref mn, .int mtr])), (mn, .inl (cI, 3, .inl mnm))] [(la, .inr (1, [.int lst, .int lla, .int lbw, .int lbf, .int lbd, .ref lb, .ref lc])), (lb, .inl (cF, 6, .inr (.inr (.inl lsh)))), (lc, .inl (cF, 6, .inr (.inr (.inl lsb)))), (fa, .inr (0, [.int fst, .ref fb, .int fwy, .ref fc, .int fmk, .int fwt])), (fb, .inl (cI, 24, .inl fvl)), (fc, .inl (cI, 84, .inl fpt)), (ma, .inr (2, [.ref mla, .ref mua, .ref mn, .int mtr])), (mn, .inl (cI, 3, .inl mnm))] (some (.int zz)) := by
  refine Ct.ofW (cc := cX1_holds) (maxL := 6) (ret := (some .boolean)) (by decide) rfl (Nat.le_of_ble_eq_true rfl) ?_
  intro p e s m args below meth c hx hb hr hml hts hown hlocks hnm hK hE A Q hQ hB H locs ls hP hD hS hl
  have hl : lv_has ls 6 [(0, .ref la), (1, .ref fa), (2, .int i), (3, .ref ma)] := hl
  have w0 : ∀ w ∈ u_ws RX1 TX1 7, w ∈ wsX1_holds := by decide +kernel
  have w1 := hts (.fieldLink RX1 25 "MotionStates$Layer" "lasted" "I") (by decide +kernel)
  have w2 : ∀ w ∈ u_ws RX2 TX2 4, w ∈ wsX1_holds := by decide +kernel
  have w3 : (Cond.fieldLinkNest "MotionStates$Layer" 89 "MotionStates$Motion" "numbers" "[I" "MotionStates").before args s = true := va_Nw.use rfl (hE.1 ("MotionStates$Layer", 89, "MotionStates$Motion", "numbers", "[I", "MotionStates") (by decide +kernel))
  unfold f_X1_holds at hf
  refine lv_aload_n hx hb dX1_holds_0 rfl (lv_at hl 1 rfl) ?_
  refine lv_iload_n hx hb dX1_holds_1 rfl (lv_at hl 2 rfl) ?_
  refine lv_iconst (v := 5) hx hb dX1_holds_2 (by decide) ?_
  obtain ⟨r1, hc2, hf⟩ := bd_inv hf
  refine xcV (As := [.int i, .int 5]) (rest := []) (ws' := [(la, .inr (1, [.int lst, .int lla, .int lbw, .int lbf, .int lbd, .ref lb, .ref lc])), (lb, .inl (cF, 6, .inr (.inr (.inl lsh)))), (lc, .inl (cF, 6, .inr (.inr (.inl lsb)))), (fa, .inr (0, [.int fst, .ref fb, .int fwy, .ref fc, .int fmk, .int fwt])), (fb, .inl (cI, 24, .inl fvl)), (fc, .inl (cI, 84, .inl fpt)), (ma, .inr (2, [.ref mla, .ref mua, .ref mn, .int mtr])), (mn, .inl (cI, 3, .inl mnm))]) ⟨hx, hb, hml, hown, hts⟩ (c_X0_part l D B adK adV cC cF cI cZ cM cS fa fst fb fwy fc fmk fwt fvl fpt i 5  r1 hc2) (cwV 2 hts gX1_holds_X0_part rfl rfl rfl (by decide +kernel) ⟨Nat.le_of_ble_eq_true rfl, Nat.le_of_ble_eq_true rfl⟩) (va_recv hK hP (ci := 0) (q0 := 3) rfl rfl) hK hP hD hS hB hE [3, 4, 5] rfl rfl rfl rfl rfl hl.1 rfl (Nat.le_of_ble_eq_true rfl) dX1_holds_3 ⟨Nat.le_of_ble_eq_true rfl, Nat.le_of_ble_eq_true rfl⟩ (fun H locs hP hD hS => ?_)
  refine W.eq (g2 := F0 m 6 ls [.int r1]) rfl ?_
  refine lv_istore (lv' := [(4, .int r1), (0, .ref la), (1, .ref fa), (2, .int i), (3, .ref ma)]) hx hb dX1_holds_6 hl (by decide) rfl (fun ls hl => ?_)
  refine lv_aload_n hx hb dX1_holds_8 rfl (lv_at hl 2 rfl) ?_
  refine lv_iload_n hx hb dX1_holds_9 rfl (lv_at hl 3 rfl) ?_
  refine lv_bipush (v := 6) hx hb dX1_holds_10 (by decide) ?_
  obtain ⟨r3, hc4, hf⟩ := bd_inv hf
  refine xcV (As := [.int i, .int 6]) (rest := []) (ws' := [(la, .inr (1, [.int lst, .int lla, .int lbw, .int lbf, .int lbd, .ref lb, .ref lc])), (lb, .inl (cF, 6, .inr (.inr (.inl lsh)))), (lc, .inl (cF, 6, .inr (.inr (.inl lsb)))), (fa, .inr (0, [.int fst, .ref fb, .int fwy, .ref fc, .int fmk, .int fwt])), (fb, .inl (cI, 24, .inl fvl)), (fc, .inl (cI, 84, .inl fpt)), (ma, .inr (2, [.ref mla, .ref mua, .ref mn, .int mtr])), (mn, .inl (cI, 3, .inl mnm))]) ⟨hx, hb, hml, hown, hts⟩ (c_X0_part l D B adK adV cC cF cI cZ cM cS fa fst fb fwy fc fmk fwt fvl fpt i 6  r3 hc4) (cwV 2 hts gX1_holds_X0_part rfl rfl rfl (by decide +kernel) ⟨Nat.le_of_ble_eq_true rfl, Nat.le_of_ble_eq_true rfl⟩) (va_recv hK hP (ci := 0) (q0 := 3) rfl rfl) hK hP hD hS hB hE [3, 4, 5] rfl rfl rfl rfl rfl hl.1 rfl (Nat.le_of_ble_eq_true rfl) dX1_holds_12 ⟨Nat.le_of_ble_eq_true rfl, Nat.le_of_ble_eq_true rfl⟩ (fun H locs hP hD hS => ?_)
  refine W.eq (g2 := F0 m 15 ls [.int r3]) rfl ?_
  refine lv_istore (lv' := [(5, .int r3), (4, .int r1), (0, .ref la), (1, .ref fa), (2, .int i), (3, .ref ma)]) hx hb dX1_holds_15 hl (by decide) rfl (fun ls hl => ?_)
  refine lv_aload_n hx hb dX1_holds_17 rfl (lv_at hl 3 rfl) ?_
  refine lv_iload_n hx hb dX1_holds_18 rfl (lv_at hl 4 rfl) ?_
  refine lv_iconst (v := 4) hx hb dX1_holds_19 (by decide) ?_
  obtain ⟨r5, hc6, hf⟩ := bd_inv hf
  refine xcV (As := [.int i, .int 4]) (rest := []) (ws' := [(la, .inr (1, [.int lst, .int lla, .int lbw, .int lbf, .int lbd, .ref lb, .ref lc])), (lb, .inl (cF, 6, .inr (.inr (.inl lsh)))), (lc, .inl (cF, 6, .inr (.inr (.inl lsb)))), (fa, .inr (0, [.int fst, .ref fb, .int fwy, .ref fc, .int fmk, .int fwt])), (fb, .inl (cI, 24, .inl fvl)), (fc, .inl (cI, 84, .inl fpt)), (ma, .inr (2, [.ref mla, .ref mua, .ref mn, .int mtr])), (mn, .inl (cI, 3, .inl mnm))]) ⟨hx, hb, hml, hown, hts⟩ (c_X0_part l D B adK adV cC cF cI cZ cM cS fa fst fb fwy fc fmk fwt fvl fpt i 4  r5 hc6) (cwV 2 hts gX1_holds_X0_part rfl rfl rfl (by decide +kernel) ⟨Nat.le_of_ble_eq_true rfl, Nat.le_of_ble_eq_true rfl⟩) (va_recv hK hP (ci := 0) (q0 := 3) rfl rfl) hK hP hD hS hB hE [3, 4, 5] rfl rfl rfl rfl rfl hl.1 rfl (Nat.le_of_ble_eq_true rfl) dX1_holds_20 ⟨Nat.le_of_ble_eq_true rfl, Nat.le_of_ble_eq_true rfl⟩ (fun H locs hP hD hS => ?_)
  refine W.eq (g2 := F0 m 23 ls [.int r5]) rfl ?_
  by_cases c7 : r5 = 0
  · have hf := if_p c7 hf
    refine lv_tableIn (off := 25) (tgt := 48) hx hb dX1_holds_23 (by rw [c7]; decide) (by rw [c7]; decide) (by rw [c7]; decide) (by decide) ?_
    refine lv_aload_n hx hb dX1_holds_48 rfl (lv_at hl 2 rfl) ?_
    refine va_get (D := D) (ci := 1) (v := .int lla) (C := RX1) (T := TX1) (N := 7) hx hb hts w0 hown hK hP 0 rfl rfl 1 (by decide) w1 (fun _ h9 => h9) rfl dX1_holds_49 ?_
    refine lv_iload hx hb dX1_holds_52 (lv_at hl 0 rfl) ?_
    refine lv_icmp_lt (tgt := 61) hx hb dX1_holds_54 (by decide) (fun c8 => ?_) (fun c8 => ?_)
    · have hf := if_p c8 hf
      refine lv_iconst (v := 0) hx hb dX1_holds_61 (by decide) ?_
      have h1 := Option.some.inj hf
      subst h1
      rw [hQ]
      exact W.zret (v := 0) (ty := .boolean) hx hb hr rfl (fun t ht hW => qEnd hP hS ht) hS.2.2 dX1_holds_62
    · have hf := if_n c8 hf
      refine lv_iconst (v := 1) hx hb dX1_holds_57 (by decide) ?_
      refine lv_goto (tgt := 62) hx hb dX1_holds_58 (by decide) ?_
      have h1 := Option.some.inj hf
      subst h1
      rw [hQ]
      exact W.zret (v := 1) (ty := .boolean) hx hb hr rfl (fun t ht hW => qEnd hP hS ht) hS.2.2 dX1_holds_62
  · have hf := if_n c7 hf
    by_cases c9 : r5 = 1
    · have hf := if_p c9 hf
      refine lv_tableIn (off := 40) (tgt := 63) hx hb dX1_holds_23 (by rw [c9]; decide) (by rw [c9]; decide) (by rw [c9]; decide) (by decide) ?_
      refine lv_aload_n hx hb dX1_holds_63 rfl (lv_at hl 5 rfl) ?_
      refine va_getN (D := D) (ci := 2) (v := .ref mn) (C := RX2) (T := TX2) (N := 4) hx hb hts w2 hown hK hP 6 rfl rfl 2 (by decide) w3 (fun _ h9 => h9) rfl dX1_holds_64 ?_
      refine lv_iload hx hb dX1_holds_67 (lv_at hl 1 rfl) ?_
      obtain ⟨g10, hf⟩ := gd_inv hf
      refine va_iald hx hb hK hP 7 2 rfl rfl g10 dX1_holds_69 ?_
      refine lv_iload hx hb dX1_holds_70 (lv_at hl 0 rfl) ?_
      refine lv_icmp_le (tgt := 79) hx hb dX1_holds_72 (by decide) (fun c11 => ?_) (fun c11 => ?_)
      · have hf := if_p c11 hf
        refine lv_iconst (v := 0) hx hb dX1_holds_79 (by decide) ?_
        have h1 := Option.some.inj hf
        subst h1
        rw [hQ]
        exact W.zret (v := 0) (ty := .boolean) hx hb hr rfl (fun t ht hW => qEnd hP hS ht) hS.2.2 dX1_holds_80
      · have hf := if_n c11 hf
        refine lv_iconst (v := 1) hx hb dX1_holds_75 (by decide) ?_
        refine lv_goto (tgt := 80) hx hb dX1_holds_76 (by decide) ?_
        have h1 := Option.some.inj hf
        subst h1
        rw [hQ]
        exact W.zret (v := 1) (ty := .boolean) hx hb hr rfl (fun t ht hW => qEnd hP hS ht) hS.2.2 dX1_holds_80
    · have hf := if_n c9 hf
      by_cases c12 : r5 = 2
      · have hf := if_p c12 hf
        refine lv_tableIn (off := 58) (tgt := 81) hx hb dX1_holds_23 (by rw [c12]; decide) (by rw [c12]; decide) (by rw [c12]; decide) (by decide) ?_
        refine lv_aload_n hx hb dX1_holds_81 rfl (lv_at hl 5 rfl) ?_
        refine va_getN (D := D) (ci := 2) (v := .ref mn) (C := RX2) (T := TX2) (N := 4) hx hb hts w2 hown hK hP 6 rfl rfl 2 (by decide) w3 (fun _ h9 => h9) rfl dX1_holds_82 ?_
        refine lv_iload hx hb dX1_holds_85 (lv_at hl 1 rfl) ?_
        obtain ⟨g13, hf⟩ := gd_inv hf
        refine va_iald hx hb hK hP 7 2 rfl rfl g13 dX1_holds_87 ?_
        refine lv_iload hx hb dX1_holds_88 (lv_at hl 0 rfl) ?_
        refine lv_icmp_ge (tgt := 97) hx hb dX1_holds_90 (by decide) (fun c14 => ?_) (fun c14 => ?_)
        · have hf := if_p c14 hf
          refine lv_iconst (v := 0) hx hb dX1_holds_97 (by decide) ?_
          have h1 := Option.some.inj hf
          subst h1
          rw [hQ]
          exact W.zret (v := 0) (ty := .boolean) hx hb hr rfl (fun t ht hW => qEnd hP hS ht) hS.2.2 dX1_holds_98
        · have hf := if_n c14 hf
          refine lv_iconst (v := 1) hx hb dX1_holds_93 (by decide) ?_
          refine lv_goto (tgt := 98) hx hb dX1_holds_94 (by decide) ?_
          have h1 := Option.some.inj hf
          subst h1
          rw [hQ]
          exact W.zret (v := 1) (ty := .boolean) hx hb hr rfl (fun t ht hW => qEnd hP hS ht) hS.2.2 dX1_holds_98
      · have hf := if_n c12 hf
        refine lv_tableOut (tgt := 99) hx hb dX1_holds_23 (by have h0 := lv_neT c7 (a := 0) rfl; have h1 := lv_neT c9 (a := 1) rfl; have h2 := lv_neT c12 (a := 2) rfl; omega) (by decide) ?_
        refine lv_aload_n hx hb dX1_holds_99 rfl (lv_at hl 5 rfl) ?_
        refine lv_iload hx hb dX1_holds_100 (lv_at hl 1 rfl) ?_
        obtain ⟨r15, hc16, hf⟩ := bd_inv hf
        refine xcV (As := [.int r1]) (rest := []) (ws' := [(la, .inr (1, [.int lst, .int lla, .int lbw, .int lbf, .int lbd, .ref lb, .ref lc])), (lb, .inl (cF, 6, .inr (.inr (.inl lsh)))), (lc, .inl (cF, 6, .inr (.inr (.inl lsb)))), (fa, .inr (0, [.int fst, .ref fb, .int fwy, .ref fc, .int fmk, .int fwt])), (fb, .inl (cI, 24, .inl fvl)), (fc, .inl (cI, 84, .inl fpt)), (ma, .inr (2, [.ref mla, .ref mua, .ref mn, .int mtr])), (mn, .inl (cI, 3, .inl mnm))]) ⟨hx, hb, hml, hown, hts⟩ (c_X2_isTriggered l D B adK adV cC cF cI cZ cM cS ma mla mua mn mtr mnm r1  r15 hc16) (cwV 1 hts gX1_holds_X2_isTriggered rfl rfl rfl (by decide +kernel) ⟨Nat.le_of_ble_eq_true rfl, Nat.le_of_ble_eq_true rfl⟩) (va_recv hK hP (ci := 2) (q0 := 6) rfl rfl) hK hP hD hS hB hE [6, 7] rfl rfl rfl rfl rfl hl.1 rfl (Nat.le_of_ble_eq_true rfl) dX1_holds_102 ⟨Nat.le_of_ble_eq_true rfl, Nat.le_of_ble_eq_true rfl⟩ (fun H locs hP hD hS => ?_)
        refine W.eq (g2 := F0 m 105 ls [.int r15]) rfl ?_
        obtain ⟨g17, hf⟩ := gd_inv hf
        have h1 := Option.some.inj hf
        subst h1
        rw [hQ]
        exact W.zret (v := r15) (ty := .boolean) hx hb hr (zok_n g17) (fun t ht hW => qEnd hP hS ht) hS.2.2 dX1_holds_105
set_option maxRecDepth 100000 in
set_option maxHeartbeats 4000000 in
theorem c_X1_isOpen (l : Launch) (D : va_G) (B : Nat) (adK adV : Nat → Nat) (cC cF cI cZ cM cS : ClassId) (la : Nat) (lst : Int32) (lla : Int32) (lbw : Int32) (lbf : Int32) (lbd : Int32) (lb : Nat) (lc : Nat) (lsh : Nat → UInt32) (lsb : Nat → UInt32) (fa : Nat) (fst : Int32) (fb : Nat) (fwy : Int32) (fc : Nat) (fmk : Int32) (fwt : Int32) (fvl : Nat → Int32) (fpt : Nat → Int32) (ma : Nat) (mla : Nat) (mua : Nat) (mn : Nat) (mtr : Int32) (mnm : Nat → Int32) (i : Int32) (zz : Int32) (hf : f_X1_isOpen lst lla fpt mtr mnm i = some zz) : Ct l yX1_isOpen wsX1_isOpen { frames := 2, cells := 0, slots := 0, locals := 47 } D B adK adV (tysX cC cF cI cZ cM cS) [.ref la, .ref fa, .int i, .ref ma] [(la, .inr (1, [.int lst, .int lla, .int lbw, .int lbf, .int lbd, .ref lb, .ref lc])), (lb, .inl (cF, 6, .inr (.inr (.inl lsh)))), (lc, .inl (cF, 6, .inr (.inr (.inl lsb)))), (fa, .inr (0, [.int fst, .ref fb, .int fwy, .ref fc, .int fmk, .int fwt])), (fb, .inl (cI, 24, .inl fvl)), (fc, .inl (cI, 84, .inl fpt)), (ma, .inr (2, [.ref mla, .ref mua, .ref mn, .int mtr])), (mn, .inl (cI, 3, .inl mnm))] [(la, .inr (1, [.int lst, .int lla, .int lbw, .int lbf, .int lbd, .ref lb, .ref lc])), (lb, .inl (cF, 6, .inr (.inr (.inl lsh)))), (lc, .inl (cF, 6, .inr (.inr (.inl lsb)))), (fa, .inr (0, [.int fst, .ref fb, .int fwy, .ref fc, .int fmk, .int fwt])), (fb, .inl (cI, 24, .inl fvl)), (fc, .inl (cI, 84, .inl fpt)), (ma, .inr (2, [.ref mla, .ref mua, .ref mn, .int mtr])), (mn, .inl (cI, 3, .inl mnm))] (some (.int zz)) := by
  refine Ct.ofW (cc := cX1_isOpen) (maxL := 4) (ret := (some .boolean)) (by decide) rfl (Nat.le_of_ble_eq_true rfl) ?_
  intro p e s m args below meth c hx hb hr hml hts hown hlocks hnm hK hE A Q hQ hB H locs ls hP hD hS hl
  have hl : lv_has ls 4 [(0, .ref la), (1, .ref fa), (2, .int i), (3, .ref ma)] := hl
  have w0 : ∀ w ∈ u_ws RX1 TX1 7, w ∈ wsX1_isOpen := by decide +kernel
  have w1 := hts (.fieldLink RX1 22 "MotionStates$Layer" "state" "I") (by decide +kernel)
  unfold f_X1_isOpen at hf
  refine lv_aload_n hx hb dX1_isOpen_0 rfl (lv_at hl 1 rfl) ?_
  refine lv_iload_n hx hb dX1_isOpen_1 rfl (lv_at hl 2 rfl) ?_
  refine lv_aload_n hx hb dX1_isOpen_2 rfl (lv_at hl 0 rfl) ?_
  refine va_get (D := D) (ci := 1) (v := .int lst) (C := RX1) (T := TX1) (N := 7) hx hb hts w0 hown hK hP 0 rfl rfl 0 (by decide) w1 (fun _ h9 => h9) rfl dX1_isOpen_3 ?_
  obtain ⟨r1, hc2, hf⟩ := bd_inv hf
  refine xcV (As := [.int i, .int lst]) (rest := []) (ws' := [(la, .inr (1, [.int lst, .int lla, .int lbw, .int lbf, .int lbd, .ref lb, .ref lc])), (lb, .inl (cF, 6, .inr (.inr (.inl lsh)))), (lc, .inl (cF, 6, .inr (.inr (.inl lsb)))), (fa, .inr (0, [.int fst, .ref fb, .int fwy, .ref fc, .int fmk, .int fwt])), (fb, .inl (cI, 24, .inl fvl)), (fc, .inl (cI, 84, .inl fpt)), (ma, .inr (2, [.ref mla, .ref mua, .ref mn, .int mtr])), (mn, .inl (cI, 3, .inl mnm))]) ⟨hx, hb, hml, hown, hts⟩ (c_X0_leadsFrom l D B adK adV cC cF cI cZ cM cS fa fst fb fwy fc fmk fwt fvl fpt i lst  r1 hc2) (cwV 2 hts gX1_isOpen_X0_leadsFrom rfl rfl rfl (by decide +kernel) ⟨Nat.le_of_ble_eq_true rfl, Nat.le_of_ble_eq_true rfl⟩) (va_recv hK hP (ci := 0) (q0 := 3) rfl rfl) hK hP hD hS hB hE [3, 4, 5] rfl rfl rfl rfl rfl hl.1 rfl (Nat.le_of_ble_eq_true rfl) dX1_isOpen_6 ⟨Nat.le_of_ble_eq_true rfl, Nat.le_of_ble_eq_true rfl⟩ (fun H locs hP hD hS => ?_)
  refine W.eq (g2 := F0 m 9 ls [.int r1]) rfl ?_
  refine lv_if_eq (tgt := 39) hx hb dX1_isOpen_9 (by decide) (fun c3 => ?_) (fun c3 => ?_)
  · have hf := if_p c3 hf
    refine lv_iconst (v := 0) hx hb dX1_isOpen_39 (by decide) ?_
    have h1 := Option.some.inj hf
    subst h1
    rw [hQ]
    exact W.zret (v := 0) (ty := .boolean) hx hb hr rfl (fun t ht hW => qEnd hP hS ht) hS.2.2 dX1_isOpen_40
  · have hf := if_n c3 hf
    refine lv_aload_n hx hb dX1_isOpen_12 rfl (lv_at hl 1 rfl) ?_
    refine lv_iload_n hx hb dX1_isOpen_13 rfl (lv_at hl 2 rfl) ?_
    refine lv_iconst (v := 1) hx hb dX1_isOpen_14 (by decide) ?_
    obtain ⟨r4, hc5, hf⟩ := bd_inv hf
    refine xcV (As := [.int i, .int 1]) (rest := []) (ws' := [(la, .inr (1, [.int lst, .int lla, .int lbw, .int lbf, .int lbd, .ref lb, .ref lc])), (lb, .inl (cF, 6, .inr (.inr (.inl lsh)))), (lc, .inl (cF, 6, .inr (.inr (.inl lsb)))), (fa, .inr (0, [.int fst, .ref fb, .int fwy, .ref fc, .int fmk, .int fwt])), (fb, .inl (cI, 24, .inl fvl)), (fc, .inl (cI, 84, .inl fpt)), (ma, .inr (2, [.ref mla, .ref mua, .ref mn, .int mtr])), (mn, .inl (cI, 3, .inl mnm))]) ⟨hx, hb, hml, hown, hts⟩ (c_X0_part l D B adK adV cC cF cI cZ cM cS fa fst fb fwy fc fmk fwt fvl fpt i 1  r4 hc5) (cwV 2 hts gX1_isOpen_X0_part rfl rfl rfl (by decide +kernel) ⟨Nat.le_of_ble_eq_true rfl, Nat.le_of_ble_eq_true rfl⟩) (va_recv hK hP (ci := 0) (q0 := 3) rfl rfl) hK hP hD hS hB hE [3, 4, 5] rfl rfl rfl rfl rfl hl.1 rfl (Nat.le_of_ble_eq_true rfl) dX1_isOpen_15 ⟨Nat.le_of_ble_eq_true rfl, Nat.le_of_ble_eq_true rfl⟩ (fun H locs hP hD hS => ?_)
    refine W.eq (g2 := F0 m 18 ls [.int r4]) rfl ?_
    refine lv_aload_n hx hb dX1_isOpen_18 rfl (lv_at hl 0 rfl) ?_
    refine va_get (D := D) (ci := 1) (v := .int lst) (C := RX1) (T := TX1) (N := 7) hx hb hts w0 hown hK hP 0 rfl rfl 0 (by decide) w1 (fun _ h9 => h9) rfl dX1_isOpen_19 ?_
    refine lv_icmp_eq (tgt := 39) hx hb dX1_isOpen_22 (by decide) (fun c6 => ?_) (fun c6 => ?_)
    · have hf := if_p c6 hf
      refine lv_iconst (v := 0) hx hb dX1_isOpen_39 (by decide) ?_
      have h1 := Option.some.inj hf
      subst h1
      rw [hQ]
      exact W.zret (v := 0) (ty := .boolean) hx hb hr rfl (fun t ht hW => qEnd hP hS ht) hS.2.2 dX1_isOpen_40
    · have hf := if_n c6 hf
      refine lv_aload_n hx hb dX1_isOpen_25 rfl (lv_at hl 0 rfl) ?_
      refine lv_aload_n hx hb dX1_isOpen_26 rfl (lv_at hl 1 rfl) ?_
      refine lv_iload_n hx hb dX1_isOpen_27 rfl (lv_at hl 2 rfl) ?_
      refine lv_aload_n hx hb dX1_isOpen_28 rfl (lv_at hl 3 rfl) ?_
      obtain ⟨r7, hc8, hf⟩ := bd_inv hf
      refine xcV (As := [.ref fa, .int i, .ref ma]) (rest := []) (ws' := [(la, .inr (1, [.int lst, .int lla, .int lbw, .int lbf, .int lbd, .ref lb, .ref lc])), (lb, .inl (cF, 6, .inr (.inr (.inl lsh)))), (lc, .inl (cF, 6, .inr (.inr (.inl lsb)))), (fa, .inr (0, [.int fst, .ref fb, .int fwy, .ref fc, .int fmk, .int fwt])), (fb, .inl (cI, 24, .inl fvl)), (fc, .inl (cI, 84, .inl fpt)), (ma, .inr (2, [.ref mla, .ref mua, .ref mn, .int mtr])), (mn, .inl (cI, 3, .inl mnm))]) ⟨hx, hb, hml, hown, hts⟩ (c_X1_holds l D B adK adV cC cF cI cZ cM cS la lst lla lbw lbf lbd lb lc lsh lsb fa fst fb fwy fc fmk fwt fvl fpt ma mla mua mn mtr mnm i  r7 hc8) (cwV 3 hts gX1_isOpen_X1_holds rfl rfl rfl (by decide +kernel) ⟨Nat.le_of_ble_eq_true rfl, Nat.le_of_ble_eq_true rfl⟩) (va_recv hK hP (ci := 1) (q0 := 0) rfl rfl) hK hP hD hS hB hE [0, 1, 2, 3, 4, 5, 6, 7] rfl rfl rfl rfl rfl hl.1 rfl (Nat.le_of_ble_eq_true rfl) dX1_isOpen_29 ⟨Nat.le_of_ble_eq_true rfl, Nat.le_of_ble_eq_true rfl⟩ (fun H locs hP hD hS => ?_)
      refine W.eq (g2 := F0 m 32 ls [.int r7]) rfl ?_
      refine lv_if_eq (tgt := 39) hx hb dX1_isOpen_32 (by decide) (fun c9 => ?_) (fun c9 => ?_)
      · have hf := if_p c9 hf
        refine lv_iconst (v := 0) hx hb dX1_isOpen_39 (by decide) ?_
        have h1 := Option.some.inj hf
        subst h1
        rw [hQ]
        exact W.zret (v := 0) (ty := .boolean) hx hb hr rfl (fun t ht hW => qEnd hP hS ht) hS.2.2 dX1_isOpen_40
      · have hf := if_n c9 hf
        refine lv_iconst (v := 1) hx hb dX1_isOpen_35 (by decide) ?_
        refine lv_goto (tgt := 40) hx hb dX1_isOpen_36 (by decide) ?_
        have h1 := Option.some.inj hf
        subst h1
        rw [hQ]
        exact W.zret (v := 1) (ty := .boolean) hx hb hr rfl (fun t ht hW => qEnd hP hS ht) hS.2.2 dX1_isOpen_40
set_option maxRecDepth 100000 in
set_option maxHeartbeats 4000000 in
theorem c_X1_begin (l : Launch) (D : va_G) (B : Nat) (adK adV : Nat → Nat) (cC cF cI cZ cM cS : ClassId) (la : Nat) (lst : Int32) (lla : Int32) (lbw : Int32) (lbf : Int32) (lbd : Int32) (lb : Nat) (lc : Nat) (lsh : Nat → UInt32) (lsb : Nat → UInt32) (i : Int32) (to : Int32) (fr : Int32) (zz : (Nat → UInt32) × (Nat → UInt32) × Int32 × Int32 × Int32 × Int32 × Int32) (hf : f_X1_begin lsh lsb i to fr = some zz) : Ct l yX1_begin wsX1_begin { frames := 2, cells := 0, slots := 0, locals := 68 } D B adK adV (tysX cC cF cI cZ cM cS) [.ref la, .int i, .int to, .int fr] [(la, .inr (1, [.int lst, .int lla, .int lbw, .int lbf, .int lbd, .ref lb, .ref lc])), (lb, .inl (cF, 6, .inr (.inr (.inl lsh)))), (lc, .inl (cF, 6, .inr (.inr (.inl lsb))))] [(la, .inr (1, [.int zz.2.2.1, .int zz.2.2.2.1, .int zz.2.2.2.2.1, .int zz.2.2.2.2.2.1, .int zz.2.2.2.2.2.2, .ref lb, .ref lc])), (lb, .inl (cF, 6, .inr (.inr (.inl zz.1)))), (lc, .inl (cF, 6, .inr (.inr (.inl zz.2.1))))] none := by
  refine Ct.ofW (cc := cX1_begin) (maxL := 4) (ret := none) (by decide) rfl (Nat.le_of_ble_eq_true rfl) ?_
  intro p e s m args below meth c hx hb hr hml hts hown hlocks hnm hK hE A Q hQ hB H locs ls hP hD hS hl
  have hl : lv_has ls 4 [(0, .ref la), (1, .int i), (2, .int to), (3, .int fr)] := hl
  have w0 : ∀ w ∈ u_ws RX1 TX1 7, w ∈ wsX1_begin := by decide +kernel
  have w1 := hts (.fieldLink RX1 22 "MotionStates$Layer" "state" "I") (by decide +kernel)
  have w2 := hts (.fieldLink RX1 25 "MotionStates$Layer" "lasted" "I") (by decide +kernel)
  have w3 := hts (.fieldLink RX1 9 "MotionStates$Layer" "blendWay" "I") (by decide +kernel)
  have w4 := hts (.fieldLink RX1 28 "MotionStates$Layer" "blendFrames" "I") (by decide +kernel)
  have w5 := hts (.fieldLink RX1 31 "MotionStates$Layer" "blendDone" "I") (by decide +kernel)
  have w6 := hts (.fieldLink RX1 15 "MotionStates$Layer" "shares" "[F") (by decide +kernel)
  have w7 := hts (.fieldLink RX1 19 "MotionStates$Layer" "sharesBefore" "[F") (by decide +kernel)
  have w8 := hts (.methodLink RX1 34 arraycopyName) (by decide +kernel)
  have w9 := hts (.native arraycopyName) (by decide +kernel)
  have w10 := hts (.static arraycopyName) (by decide +kernel)
  have w11 := hts (.initialized "java/lang/System") (by decide +kernel)
  unfold f_X1_begin at hf
  refine lv_aload_n hx hb dX1_begin_0 rfl (lv_at hl 0 rfl) ?_
  refine lv_iload_n hx hb dX1_begin_1 rfl (lv_at hl 2 rfl) ?_
  refine va_put (D := D) (ci := 1) (v := .int to) (ty := .int) (C := RX1) (T := TX1) (N := 7) hx hb hts w0 tyX1 tyX1_ok nmX1 hown hK hP hD hS 0 rfl rfl 0 (by decide) w1 (fun _ h9 => h9) rfl (by decide +kernel) rfl rfl (Nat.le_of_ble_eq_true rfl) dX1_begin_2 (fun H locs hP hD hS => ?_)
  have hP : va_P D vwCl [(la, .inr (1, [.int to, .int lla, .int lbw, .int lbf, .int lbd, .ref lb, .ref lc])), (lb, .inl (cF, 6, .inr (.inr (.inl lsh)))), (lc, .inl (cF, 6, .inr (.inr (.inl lsb))))] H := hP
  have hD : va_D A [(la, .inr (1, [.int to, .int lla, .int lbw, .int lbf, .int lbd, .ref lb, .ref lc])), (lb, .inl (cF, 6, .inr (.inr (.inl lsh)))), (lc, .inl (cF, 6, .inr (.inr (.inl lsb))))] := hD
  refine lv_aload_n hx hb dX1_begin_5 rfl (lv_at hl 0 rfl) ?_
  refine lv_iconst (v := 0) hx hb dX1_begin_6 (by decide) ?_
  refine va_put (D := D) (ci := 1) (v := .int 0) (ty := .int) (C := RX1) (T := TX1) (N := 7) hx hb hts w0 tyX1 tyX1_ok nmX1 hown hK hP hD hS 0 rfl rfl 1 (by decide) w2 (fun _ h9 => h9) rfl (by decide +kernel) rfl rfl (Nat.le_of_ble_eq_true rfl) dX1_begin_7 (fun H locs hP hD hS => ?_)
  have hP : va_P D vwCl [(la, .inr (1, [.int to, .int 0, .int lbw, .int lbf, .int lbd, .ref lb, .ref lc])), (lb, .inl (cF, 6, .inr (.inr (.inl lsh)))), (lc, .inl (cF, 6, .inr (.inr (.inl lsb))))] H := hP
  have hD : va_D A [(la, .inr (1, [.int to, .int 0, .int lbw, .int lbf, .int lbd, .ref lb, .ref lc])), (lb, .inl (cF, 6, .inr (.inr (.inl lsh)))), (lc, .inl (cF, 6, .inr (.inr (.inl lsb))))] := hD
  refine lv_iload_n hx hb dX1_begin_10 rfl (lv_at hl 3 rfl) ?_
  refine lv_if_ne (tgt := 19) hx hb dX1_begin_11 (by decide) (fun c1 => ?_) (fun c1 => ?_)
  · have hf := if_n c1 hf
    refine lv_aload_n hx hb dX1_begin_19 rfl (lv_at hl 0 rfl) ?_
    refine lv_iload_n hx hb dX1_begin_20 rfl (lv_at hl 1 rfl) ?_
    refine va_put (D := D) (ci := 1) (v := .int i) (ty := .int) (C := RX1) (T := TX1) (N := 7) hx hb hts w0 tyX1 tyX1_ok nmX1 hown hK hP hD hS 0 rfl rfl 2 (by decide) w3 (fun _ h9 => h9) rfl (by decide +kernel) rfl rfl (Nat.le_of_ble_eq_true rfl) dX1_begin_21 (fun H locs hP hD hS => ?_)
    have hP : va_P D vwCl [(la, .inr (1, [.int to, .int 0, .int i, .int lbf, .int lbd, .ref lb, .ref lc])), (lb, .inl (cF, 6, .inr (.inr (.inl lsh)))), (lc, .inl (cF, 6, .inr (.inr (.inl lsb))))] H := hP
    have hD : va_D A [(la, .inr (1, [.int to, .int 0, .int i, .int lbf, .int lbd, .ref lb, .ref lc])), (lb, .inl (cF, 6, .inr (.inr (.inl lsh)))), (lc, .inl (cF, 6, .inr (.inr (.inl lsb))))] := hD
    refine lv_aload_n hx hb dX1_begin_24 rfl (lv_at hl 0 rfl) ?_
    refine lv_iload_n hx hb dX1_begin_25 rfl (lv_at hl 3 rfl) ?_
    refine va_put (D := D) (ci := 1) (v := .int fr) (ty := .int) (C := RX1) (T := TX1) (N := 7) hx hb hts w0 tyX1 tyX1_ok nmX1 hown hK hP hD hS 0 rfl rfl 3 (by decide) w4 (fun _ h9 => h9) rfl (by decide +kernel) rfl rfl (Nat.le_of_ble_eq_true rfl) dX1_begin_26 (fun H locs hP hD hS => ?_)
    have hP : va_P D vwCl [(la, .inr (1, [.int to, .int 0, .int i, .int fr, .int lbd, .ref lb, .ref lc])), (lb, .inl (cF, 6, .inr (.inr (.inl lsh)))), (lc, .inl (cF, 6, .inr (.inr (.inl lsb))))] H := hP
    have hD : va_D A [(la, .inr (1, [.int to, .int 0, .int i, .int fr, .int lbd, .ref lb, .ref lc])), (lb, .inl (cF, 6, .inr (.inr (.inl lsh)))), (lc, .inl (cF, 6, .inr (.inr (.inl lsb))))] := hD
    refine lv_aload_n hx hb dX1_begin_29 rfl (lv_at hl 0 rfl) ?_
    refine lv_iconst (v := 0) hx hb dX1_begin_30 (by decide) ?_
    refine va_put (D := D) (ci := 1) (v := .int 0) (ty := .int) (C := RX1) (T := TX1) (N := 7) hx hb hts w0 tyX1 tyX1_ok nmX1 hown hK hP hD hS 0 rfl rfl 4 (by decide) w5 (fun _ h9 => h9) rfl (by decide +kernel) rfl rfl (Nat.le_of_ble_eq_true rfl) dX1_begin_31 (fun H locs hP hD hS => ?_)
    have hP : va_P D vwCl [(la, .inr (1, [.int to, .int 0, .int i, .int fr, .int 0, .ref lb, .ref lc])), (lb, .inl (cF, 6, .inr (.inr (.inl lsh)))), (lc, .inl (cF, 6, .inr (.inr (.inl lsb))))] H := hP
    have hD : va_D A [(la, .inr (1, [.int to, .int 0, .int i, .int fr, .int 0, .ref lb, .ref lc])), (lb, .inl (cF, 6, .inr (.inr (.inl lsh)))), (lc, .inl (cF, 6, .inr (.inr (.inl lsb))))] := hD
    refine lv_aload_n hx hb dX1_begin_34 rfl (lv_at hl 0 rfl) ?_
    refine va_get (D := D) (ci := 1) (v := .ref lb) (C := RX1) (T := TX1) (N := 7) hx hb hts w0 hown hK hP 0 rfl rfl 5 (by decide) w6 (fun _ h9 => h9) rfl dX1_begin_35 ?_
    refine lv_iconst (v := 0) hx hb dX1_begin_38 (by decide) ?_
    refine lv_aload_n hx hb dX1_begin_39 rfl (lv_at hl 0 rfl) ?_
    refine va_get (D := D) (ci := 1) (v := .ref lc) (C := RX1) (T := TX1) (N := 7) hx hb hts w0 hown hK hP 0 rfl rfl 6 (by decide) w7 (fun _ h9 => h9) rfl dX1_begin_40 ?_
    refine lv_iconst (v := 0) hx hb dX1_begin_43 (by decide) ?_
    refine lv_bipush (v := 6) hx hb dX1_begin_44 (by decide) ?_
    refine va_copyf hx hb (hml.trans hl.1.symm) hown w8 w9 w10 w11 hK hP hD hS 1 2 1 1 rfl rfl rfl rfl rfl (by decide) (by decide) (by decide) (by decide) (by decide) (fun _ _ => rfl) (Nat.le_of_ble_eq_true rfl) (Nat.le_of_ble_eq_true rfl) dX1_begin_46 (fun H locs hP hD hS => ?_)
    have hP : va_P D vwCl [(la, .inr (1, [.int to, .int 0, .int i, .int fr, .int 0, .ref lb, .ref lc])), (lb, .inl (cF, 6, .inr (.inr (.inl lsh)))), (lc, .inl (cF, 6, .inr (.inr (.inl (va_cpy lsh lsb 0 0 6)))))] H := hP
    have hD : va_D A [(la, .inr (1, [.int to, .int 0, .int i, .int fr, .int 0, .ref lb, .ref lc])), (lb, .inl (cF, 6, .inr (.inr (.inl lsh)))), (lc, .inl (cF, 6, .inr (.inr (.inl (va_cpy lsh lsb 0 0 6)))))] := hD
    have h1 := Option.some.inj hf
    subst h1
    rw [hQ]
    exact W.vret hx hb hr (fun t ht hW => qEnd hP hS ht) hS.2.2 dX1_begin_49
  · have hf := if_p c1 hf
    refine lv_aload_n hx hb dX1_begin_14 rfl (lv_at hl 0 rfl) ?_
    obtain ⟨⟨o2, o3, o4, o5⟩, hc6, hf⟩ := bd_inv hf
    refine xcV (As := []) (rest := []) (ws' := [(la, .inr (1, [.int to, .int 0, .int o3, .int o4, .int o5, .ref lb, .ref lc])), (lb, .inl (cF, 6, .inr (.inr (.inl o2)))), (lc, .inl (cF, 6, .inr (.inr (.inl lsb))))]) ⟨hx, hb, hml, hown, hts⟩ (c_X1_settle l D B adK adV cC cF cI cZ cM cS la to 0 lbw lbf lbd lb lc lsh lsb  (o2, o3, o4, o5) hc6) (cwV 0 hts gX1_begin_X1_settle rfl rfl rfl (by decide +kernel) ⟨Nat.le_of_ble_eq_true rfl, Nat.le_of_ble_eq_true rfl⟩) (va_recv hK hP (ci := 1) (q0 := 0) rfl rfl) hK hP hD hS hB hE [0, 1, 2] rfl rfl rfl rfl rfl hl.1 rfl (Nat.le_of_ble_eq_true rfl) dX1_begin_15 ⟨Nat.le_of_ble_eq_true rfl, Nat.le_of_ble_eq_true rfl⟩ (fun H locs hP hD hS => ?_)
    refine W.eq (g2 := F0 m 18 ls []) rfl ?_
    have h1 := Option.some.inj hf
    subst h1
    rw [hQ]
    exact W.vret hx hb hr (fun t ht hW => qEnd hP hS ht) hS.2.2 dX1_begin_18
set_option maxRecDepth 100000 in
set_option maxHeartbeats 4000000 in
theorem c_X1_takeFirstWay (l : Launch) (D : va_G) (B : Nat) (adK adV : Nat → Nat) (cC cF cI cZ cM cS : ClassId) (la : Nat) (lst : Int32) (lla : Int32) (lbw : Int32) (lbf : Int32) (lbd : Int32) (lb : Nat) (lc : Nat) (lsh : Nat → UInt32) (lsb : Nat → UInt32) (fa : Nat) (fst : Int32) (fb : Nat) (fwy : Int32) (fc : Nat) (fmk : Int32) (fwt : Int32) (fvl : Nat → Int32) (fpt : Nat → Int32) (ma : Nat) (mla : Nat) (mua : Nat) (mn : Nat) (mtr : Int32) (mnm : Nat → Int32) (zz : (Nat → UInt32) × (Nat → UInt32) × Int32 × Int32 × Int32 × Int32 × Int32 × Int32) (hf : f_X1_takeFirstWay lst lla lbw lbf lbd lsh lsb fwy fpt mtr mnm = some zz) : Ct l yX1_takeFirstWay wsX1_takeFirstWay { frames := 3, cells := 0, slots := 0, locals := 91 } D B adK adV (tysX cC cF cI cZ cM cS) [.ref la, .ref fa, .ref ma] [(la, .inr (1, [.int lst, .int lla, .int lbw, .int lbf, .int lbd, .ref lb, .ref lc])), (lb, .inl (cF, 6, .inr (.inr (.inl lsh)))), (lc, .inl (cF, 6, .inr (.inr (.inl lsb)))), (fa, .inr (0, [.int fst, .ref fb, .int fwy, .ref fc, .int fmk, .int fwt])), (fb, .inl (cI, 24, .inl fvl)), (fc, .inl (cI, 84, .inl fpt)), (ma, .inr (2, [.ref mla, .ref mua, .ref mn, .int mtr])), (mn, .inl (cI, 3, .inl mnm))] [(la, .inr (1, [.int zz.2.2.1, .int zz.2.2.2.1, .int zz.2.2.2.2.1, .int zz.2.2.2.2.2.1, .int zz.2.2.2.2.2.2.1, .ref lb, .ref lc])), (lb, .inl (cF, 6, .inr (.inr (.inl zz.1)))), (lc, .inl (cF, 6, .inr (.inr (.inl zz.2.1)))), (fa, .inr (0, [.int fst, .ref fb, .int fwy, .ref fc, .int fmk, .int fwt])), (fb, .inl (cI, 24, .inl fvl)), (fc, .inl (cI, 84, .inl fpt)), (ma, .inr (2, [.ref mla, .ref mua, .ref mn, .int zz.2.2.2.2.2.2.2])), (mn, .inl (cI, 3, .inl mnm))] none := by
  refine Ct.ofW (cc := cX1_takeFirstWay) (maxL := 4) (ret := none) (by decide) rfl (Nat.le_of_ble_eq_true rfl) ?_
  intro p e s m args below meth c hx hb hr hml hts hown hlocks hnm hK hE A Q hQ hB H locs ls hP hD hS hl
  have hl : lv_has ls 4 [(0, .ref la), (1, .ref fa), (2, .ref ma)] := hl
  have w0 : ∀ w ∈ u_ws RX0 TX0 6, w ∈ wsX1_takeFirstWay := by decide +kernel
  have w1 : (Cond.fieldLinkNest "MotionStates$Layer" 65 "MotionStates$Figure" "ways" "I" "MotionStates").before args s = true := va_Nw.use rfl (hE.1 ("MotionStates$Layer", 65, "MotionStates$Figure", "ways", "I", "MotionStates") (by decide +kernel))
  have L2 : ∀ (n : Nat) (x3_2 : Int32), f_X1_takeFirstWay_L2 fwy lsh lsb lst lla lbw lbf lbd mtr fpt mnm n x3_2 = some zz → ∀ (H : Heap) (locs : List Loc) (ls : Array Slot), va_P D vwCl [(la, .inr (1, [.int lst, .int lla, .int lbw, .int lbf, .int lbd, .ref lb, .ref lc])), (lb, .inl (cF, 6, .inr (.inr (.inl lsh)))), (lc, .inl (cF, 6, .inr (.inr (.inl lsb)))), (fa, .inr (0, [.int fst, .ref fb, .int fwy, .ref fc, .int fmk, .int fwt])), (fb, .inl (cI, 24, .inl fvl)), (fc, .inl (cI, 84, .inl fpt)), (ma, .inr (2, [.ref mla, .ref mua, .ref mn, .int mtr])), (mn, .inl (cI, 3, .inl mnm))] H → va_D A [(la, .inr (1, [.int lst, .int lla, .int lbw, .int lbf, .int lbd, .ref lb, .ref lc])), (lb, .inl (cF, 6, .inr (.inr (.inl lsh)))), (lc, .inl (cF, 6, .inr (.inr (.inl lsb)))), (fa, .inr (0, [.int fst, .ref fb, .int fwy, .ref fc, .int fmk, .int fwt])), (fb, .inl (cI, 24, .inl fvl)), (fc, .inl (cI, 84, .inl fpt)), (ma, .inr (2, [.ref mla, .ref mua, .ref mn, .int mtr])), (mn, .inl (cI, 3, .inl mnm))] → va_S A s.heap H locs → lv_has ls 4 [(3, .int x3_2), (0, .ref la), (1, .ref fa), (2, .ref ma)] → W p l e { frames := 3, cells := 0, slots := 0, locals := 91 } s m args below meth c H locs 0 0 Q (F0 m 2 ls []) := by
    intro n
    induction n with
    | zero => intro x3_2 hf; exact absurd hf (by simp [f_X1_takeFirstWay_L2])
    | succ n ih =>
      intro x3_2 hf H locs ls hP hD hS hl
      rw [f_X1_takeFirstWay_L2] at hf
      refine lv_iload_n hx hb dX1_takeFirstWay_2 rfl (lv_at hl 0 rfl) ?_
      refine lv_aload_n hx hb dX1_takeFirstWay_3 rfl (lv_at hl 2 rfl) ?_
      refine va_getN (D := D) (ci := 0) (v := .int fwy) (C := RX0) (T := TX0) (N := 6) hx hb hts w0 hown hK hP 3 rfl rfl 2 (by decide) w1 (fun _ h9 => h9) rfl dX1_takeFirstWay_4 ?_
      refine lv_icmp_ge (tgt := 64) hx hb dX1_takeFirstWay_7 (by decide) (fun c1 => ?_) (fun c1 => ?_)
      · have hf := if_p c1 hf
        have h1 := Option.some.inj hf
        subst h1
        rw [hQ]
        exact W.vret hx hb hr (fun t ht hW => qEnd hP hS ht) hS.2.2 dX1_takeFirstWay_64
      · have hf := if_n c1 hf
        refine lv_aload_n hx hb dX1_takeFirstWay_10 rfl (lv_at hl 1 rfl) ?_
        refine lv_aload_n hx hb dX1_takeFirstWay_11 rfl (lv_at hl 2 rfl) ?_
        refine lv_iload_n hx hb dX1_takeFirstWay_12 rfl (lv_at hl 0 rfl) ?_
        refine lv_aload_n hx hb dX1_takeFirstWay_13 rfl (lv_at hl 3 rfl) ?_
        obtain ⟨r2, hc3, hf⟩ := bd_inv hf
        refine xcV (As := [.ref fa, .int x3_2, .ref ma]) (rest := []) (ws' := [(la, .inr (1, [.int lst, .int lla, .int lbw, .int lbf, .int lbd, .ref lb, .ref lc])), (lb, .inl (cF, 6, .inr (.inr (.inl lsh)))), (lc, .inl (cF, 6, .inr (.inr (.inl lsb)))), (fa, .inr (0, [.int fst, .ref fb, .int fwy, .ref fc, .int fmk, .int fwt])), (fb, .inl (cI, 24, .inl fvl)), (fc, .inl (cI, 84, .inl fpt)), (ma, .inr (2, [.ref mla, .ref mua, .ref mn, .int mtr])), (mn, .inl (cI, 3, .inl mnm))]) ⟨hx, hb, hml, hown, hts⟩ (c_X1_isOpen l D B adK adV cC cF cI cZ cM cS la lst lla lbw lbf lbd lb lc lsh lsb fa fst fb fwy fc fmk fwt fvl fpt ma mla mua mn mtr mnm x3_2  r2 hc3) (cwV 3 hts gX1_takeFirstWay_X1_isOpen rfl rfl rfl (by decide +kernel) ⟨Nat.le_of_ble_eq_true rfl, Nat.le_of_ble_eq_true rfl⟩) (va_recv hK hP (ci := 1) (q0 := 0) rfl rfl) hK hP hD hS hB hE [0, 1, 2, 3, 4, 5, 6, 7] rfl rfl rfl rfl rfl hl.1 rfl (Nat.le_of_ble_eq_true rfl) dX1_takeFirstWay_14 ⟨Nat.le_of_ble_eq_true rfl, Nat.le_of_ble_eq_true rfl⟩ (fun H locs hP hD hS => ?_)
        refine W.eq (g2 := F0 m 17 ls [.int r2]) rfl ?_
        refine lv_if_eq (tgt := 58) hx hb dX1_takeFirstWay_17 (by decide) (fun c4 => ?_) (fun c4 => ?_)
        · have hf := if_p c4 hf
          refine lv_iinc (v := x3_2 + 1) (lv' := [(3, .int (x3_2 + 1)), (0, .ref la), (1, .ref fa), (2, .ref ma)]) hx hb dX1_takeFirstWay_58 hl (k := 0) rfl rfl (by decide) rfl (fun ls hl => ?_)
          refine lv_goto (tgt := 2) hx hb dX1_takeFirstWay_61 (by decide) ?_
          exact ih (x3_2 + 1) hf H locs ls hP hD hS (lv_sub hl [0, 1, 2, 3] rfl)
        · have hf := if_n c4 hf
          refine lv_aload_n hx hb dX1_takeFirstWay_20 rfl (lv_at hl 2 rfl) ?_
          refine lv_iload_n hx hb dX1_takeFirstWay_21 rfl (lv_at hl 0 rfl) ?_
          refine lv_iconst (v := 4) hx hb dX1_takeFirstWay_22 (by decide) ?_
          obtain ⟨r5, hc6, hf⟩ := bd_inv hf
          refine xcV (As := [.int x3_2, .int 4]) (rest := []) (ws' := [(la, .inr (1, [.int lst, .int lla, .int lbw, .int lbf, .int lbd, .ref lb, .ref lc])), (lb, .inl (cF, 6, .inr (.inr (.inl lsh)))), (lc, .inl (cF, 6, .inr (.inr (.inl lsb)))), (fa, .inr (0, [.int fst, .ref fb, .int fwy, .ref fc, .int fmk, .int fwt])), (fb, .inl (cI, 24, .inl fvl)), (fc, .inl (cI, 84, .inl fpt)), (ma, .inr (2, [.ref mla, .ref mua, .ref mn, .int mtr])), (mn, .inl (cI, 3, .inl mnm))]) ⟨hx, hb, hml, hown, hts⟩ (c_X0_part l D B adK adV cC cF cI cZ cM cS fa fst fb fwy fc fmk fwt fvl fpt x3_2 4  r5 hc6) (cwV 2 hts gX1_takeFirstWay_X0_part rfl rfl rfl (by decide +kernel) ⟨Nat.le_of_ble_eq_true rfl, Nat.le_of_ble_eq_true rfl⟩) (va_recv hK hP (ci := 0) (q0 := 3) rfl rfl) hK hP hD hS hB hE [3, 4, 5] rfl rfl rfl rfl rfl hl.1 rfl (Nat.le_of_ble_eq_true rfl) dX1_takeFirstWay_23 ⟨Nat.le_of_ble_eq_true rfl, Nat.le_of_ble_eq_true rfl⟩ (fun H locs hP hD hS => ?_)
          refine W.eq (g2 := F0 m 26 ls [.int r5]) rfl ?_
          refine lv_iconst (v := 3) hx hb dX1_takeFirstWay_26 (by decide) ?_
          refine lv_icmp_ne (tgt := 40) hx hb dX1_takeFirstWay_27 (by decide) (fun c7 => ?_) (fun c7 => ?_)
          · have hf := if_n c7 hf
            refine lv_aload_n hx hb dX1_takeFirstWay_40 rfl (lv_at hl 1 rfl) ?_
            refine lv_iload_n hx hb dX1_takeFirstWay_41 rfl (lv_at hl 0 rfl) ?_
            refine lv_aload_n hx hb dX1_takeFirstWay_42 rfl (lv_at hl 2 rfl) ?_
            refine lv_iload_n hx hb dX1_takeFirstWay_43 rfl (lv_at hl 0 rfl) ?_
            refine lv_iconst (v := 1) hx hb dX1_takeFirstWay_44 (by decide) ?_
            obtain ⟨r8, hc9, hf⟩ := bd_inv hf
            refine xcV (As := [.int x3_2, .int 1]) (rest := [.int x3_2, .ref la]) (ws' := [(la, .inr (1, [.int lst, .int lla, .int lbw, .int lbf, .int lbd, .ref lb, .ref lc])), (lb, .inl (cF, 6, .inr (.inr (.inl lsh)))), (lc, .inl (cF, 6, .inr (.inr (.inl lsb)))), (fa, .inr (0, [.int fst, .ref fb, .int fwy, .ref fc, .int fmk, .int fwt])), (fb, .inl (cI, 24, .inl fvl)), (fc, .inl (cI, 84, .inl fpt)), (ma, .inr (2, [.ref mla, .ref mua, .ref mn, .int mtr])), (mn, .inl (cI, 3, .inl mnm))]) ⟨hx, hb, hml, hown, hts⟩ (c_X0_part l D B adK adV cC cF cI cZ cM cS fa fst fb fwy fc fmk fwt fvl fpt x3_2 1  r8 hc9) (cwV 2 hts gX1_takeFirstWay_X0_part rfl rfl rfl (by decide +kernel) ⟨Nat.le_of_ble_eq_true rfl, Nat.le_of_ble_eq_true rfl⟩) (va_recv hK hP (ci := 0) (q0 := 3) rfl rfl) hK hP hD hS hB hE [3, 4, 5] rfl rfl rfl rfl rfl hl.1 rfl (Nat.le_of_ble_eq_true rfl) dX1_takeFirstWay_45 ⟨Nat.le_of_ble_eq_true rfl, Nat.le_of_ble_eq_true rfl⟩ (fun H locs hP hD hS => ?_)
            refine W.eq (g2 := F0 m 48 ls [.int r8, .int x3_2, .ref la]) rfl ?_
            refine lv_aload_n hx hb dX1_takeFirstWay_48 rfl (lv_at hl 2 rfl) ?_
            refine lv_iload_n hx hb dX1_takeFirstWay_49 rfl (lv_at hl 0 rfl) ?_
            refine lv_iconst (v := 2) hx hb dX1_takeFirstWay_50 (by decide) ?_
            obtain ⟨r10, hc11, hf⟩ := bd_inv hf
            refine xcV (As := [.int x3_2, .int 2]) (rest := [.int r8, .int x3_2, .ref la]) (ws' := [(la, .inr (1, [.int lst, .int lla, .int lbw, .int lbf, .int lbd, .ref lb, .ref lc])), (lb, .inl (cF, 6, .inr (.inr (.inl lsh)))), (lc, .inl (cF, 6, .inr (.inr (.inl lsb)))), (fa, .inr (0, [.int fst, .ref fb, .int fwy, .ref fc, .int fmk, .int fwt])), (fb, .inl (cI, 24, .inl fvl)), (fc, .inl (cI, 84, .inl fpt)), (ma, .inr (2, [.ref mla, .ref mua, .ref mn, .int mtr])), (mn, .inl (cI, 3, .inl mnm))]) ⟨hx, hb, hml, hown, hts⟩ (c_X0_part l D B adK adV cC cF cI cZ cM cS fa fst fb fwy fc fmk fwt fvl fpt x3_2 2  r10 hc11) (cwV 2 hts gX1_takeFirstWay_X0_part rfl rfl rfl (by decide +kernel) ⟨Nat.le_of_ble_eq_true rfl, Nat.le_of_ble_eq_true rfl⟩) (va_recv hK hP (ci := 0) (q0 := 3) rfl rfl) hK hP hD hS hB hE [3, 4, 5] rfl rfl rfl rfl rfl hl.1 rfl (Nat.le_of_ble_eq_true rfl) dX1_takeFirstWay_51 ⟨Nat.le_of_ble_eq_true rfl, Nat.le_of_ble_eq_true rfl⟩ (fun H locs hP hD hS => ?_)
            refine W.eq (g2 := F0 m 54 ls [.int r10, .int r8, .int x3_2, .ref la]) rfl ?_
            obtain ⟨⟨o12, o13, o14, o15, o16, o17, o18⟩, hc19, hf⟩ := bd_inv hf
            refine xcV (As := [.int x3_2, .int r8, .int r10]) (rest := []) (ws' := [(la, .inr (1, [.int o14, .int o15, .int o16, .int o17, .int o18, .ref lb, .ref lc])), (lb, .inl (cF, 6, .inr (.inr (.inl o12)))), (lc, .inl (cF, 6, .inr (.inr (.inl o13)))), (fa, .inr (0, [.int fst, .ref fb, .int fwy, .ref fc, .int fmk, .int fwt])), (fb, .inl (cI, 24, .inl fvl)), (fc, .inl (cI, 84, .inl fpt)), (ma, .inr (2, [.ref mla, .ref mua, .ref mn, .int mtr])), (mn, .inl (cI, 3, .inl mnm))]) ⟨hx, hb, hml, hown, hts⟩ (c_X1_begin l D B adK adV cC cF cI cZ cM cS la lst lla lbw lbf lbd lb lc lsh lsb x3_2 r8 r10  (o12, o13, o14, o15, o16, o17, o18) hc19) (cwV 3 hts gX1_takeFirstWay_X1_begin rfl rfl rfl (by decide +kernel) ⟨Nat.le_of_ble_eq_true rfl, Nat.le_of_ble_eq_true rfl⟩) (va_recv hK hP (ci := 1) (q0 := 0) rfl rfl) hK hP hD hS hB hE [0, 1, 2] rfl rfl rfl rfl rfl hl.1 rfl (Nat.le_of_ble_eq_true rfl) dX1_takeFirstWay_54 ⟨Nat.le_of_ble_eq_true rfl, Nat.le_of_ble_eq_true rfl⟩ (fun H locs hP hD hS => ?_)
            refine W.eq (g2 := F0 m 57 ls []) rfl ?_
            have h1 := Option.some.inj hf
            subst h1
            rw [hQ]
            exact W.vret hx hb hr (fun t ht hW => qEnd hP hS ht) hS.2.2 dX1_takeFirstWay_57
          · have hf := if_p c7 hf
            refine lv_aload_n hx hb dX1_takeFirstWay_30 rfl (lv_at hl 3 rfl) ?_
            refine lv_aload_n hx hb dX1_takeFirstWay_31 rfl (lv_at hl 2 rfl) ?_
            refine lv_iload_n hx hb dX1_takeFirstWay_32 rfl (lv_at hl 0 rfl) ?_
            refine lv_iconst (v := 5) hx hb dX1_takeFirstWay_33 (by decide) ?_
            obtain ⟨r20, hc21, hf⟩ := bd_inv hf
            refine xcV (As := [.int x3_2, .int 5]) (rest := [.ref ma]) (ws' := [(la, .inr (1, [.int lst, .int lla, .int lbw, .int lbf, .int lbd, .ref lb, .ref lc])), (lb, .inl (cF, 6, .inr (.inr (.inl lsh)))), (lc, .inl (cF, 6, .inr (.inr (.inl lsb)))), (fa, .inr (0, [.int fst, .ref fb, .int fwy, .ref fc, .int fmk, .int fwt])), (fb, .inl (cI, 24, .inl fvl)), (fc, .inl (cI, 84, .inl fpt)), (ma, .inr (2, [.ref mla, .ref mua, .ref mn, .int mtr])), (mn, .inl (cI, 3, .inl mnm))]) ⟨hx, hb, hml, hown, hts⟩ (c_X0_part l D B adK adV cC cF cI cZ cM cS fa fst fb fwy fc fmk fwt fvl fpt x3_2 5  r20 hc21) (cwV 2 hts gX1_takeFirstWay_X0_part rfl rfl rfl (by decide +kernel) ⟨Nat.le_of_ble_eq_true rfl, Nat.le_of_ble_eq_true rfl⟩) (va_recv hK hP (ci := 0) (q0 := 3) rfl rfl) hK hP hD hS hB hE [3, 4, 5] rfl rfl rfl rfl rfl hl.1 rfl (Nat.le_of_ble_eq_true rfl) dX1_takeFirstWay_34 ⟨Nat.le_of_ble_eq_true rfl, Nat.le_of_ble_eq_true rfl⟩ (fun H locs hP hD hS => ?_)
            refine W.eq (g2 := F0 m 37 ls [.int r20, .ref ma]) rfl ?_
            obtain ⟨o22, hc23, hf⟩ := bd_inv hf
            refine xcV (As := [.int r20]) (rest := []) (ws' := [(la, .inr (1, [.int lst, .int lla, .int lbw, .int lbf, .int lbd, .ref lb, .ref lc])), (lb, .inl (cF, 6, .inr (.inr (.inl lsh)))), (lc, .inl (cF, 6, .inr (.inr (.inl lsb)))), (fa, .inr (0, [.int fst, .ref fb, .int fwy, .ref fc, .int fmk, .int fwt])), (fb, .inl (cI, 24, .inl fvl)), (fc, .inl (cI, 84, .inl fpt)), (ma, .inr (2, [.ref mla, .ref mua, .ref mn, .int o22])), (mn, .inl (cI, 3, .inl mnm))]) ⟨hx, hb, hml, hown, hts⟩ (c_X2_release l D B adK adV cC cF cI cZ cM cS ma mla mua mn mtr mnm r20  o22 hc23) (cwV 1 hts gX1_takeFirstWay_X2_release rfl rfl rfl (by decide +kernel) ⟨Nat.le_of_ble_eq_true rfl, Nat.le_of_ble_eq_true rfl⟩) (va_recv hK hP (ci := 2) (q0 := 6) rfl rfl) hK hP hD hS hB hE [6, 7] rfl rfl rfl rfl rfl hl.1 rfl (Nat.le_of_ble_eq_true rfl) dX1_takeFirstWay_37 ⟨Nat.le_of_ble_eq_true rfl, Nat.le_of_ble_eq_true rfl⟩ (fun H locs hP hD hS => ?_)
            refine W.eq (g2 := F0 m 40 ls []) rfl ?_
            refine lv_aload_n hx hb dX1_takeFirstWay_40 rfl (lv_at hl 1 rfl) ?_
            refine lv_iload_n hx hb dX1_takeFirstWay_41 rfl (lv_at hl 0 rfl) ?_
            refine lv_aload_n hx hb dX1_takeFirstWay_42 rfl (lv_at hl 2 rfl) ?_
            refine lv_iload_n hx hb dX1_takeFirstWay_43 rfl (lv_at hl 0 rfl) ?_
            refine lv_iconst (v := 1) hx hb dX1_takeFirstWay_44 (by decide) ?_
            obtain ⟨r24, hc25, hf⟩ := bd_inv hf
            refine xcV (As := [.int x3_2, .int 1]) (rest := [.int x3_2, .ref la]) (ws' := [(la, .inr (1, [.int lst, .int lla, .int lbw, .int lbf, .int lbd, .ref lb, .ref lc])), (lb, .inl (cF, 6, .inr (.inr (.inl lsh)))), (lc, .inl (cF, 6, .inr (.inr (.inl lsb)))), (fa, .inr (0, [.int fst, .ref fb, .int fwy, .ref fc, .int fmk, .int fwt])), (fb, .inl (cI, 24, .inl fvl)), (fc, .inl (cI, 84, .inl fpt)), (ma, .inr (2, [.ref mla, .ref mua, .ref mn, .int o22])), (mn, .inl (cI, 3, .inl mnm))]) ⟨hx, hb, hml, hown, hts⟩ (c_X0_part l D B adK adV cC cF cI cZ cM cS fa fst fb fwy fc fmk fwt fvl fpt x3_2 1  r24 hc25) (cwV 2 hts gX1_takeFirstWay_X0_part rfl rfl rfl (by decide +kernel) ⟨Nat.le_of_ble_eq_true rfl, Nat.le_of_ble_eq_true rfl⟩) (va_recv hK hP (ci := 0) (q0 := 3) rfl rfl) hK hP hD hS hB hE [3, 4, 5] rfl rfl rfl rfl rfl hl.1 rfl (Nat.le_of_ble_eq_true rfl) dX1_takeFirstWay_45 ⟨Nat.le_of_ble_eq_true rfl, Nat.le_of_ble_eq_true rfl⟩ (fun H locs hP hD hS => ?_)
            refine W.eq (g2 := F0 m 48 ls [.int r24, .int x3_2, .ref la]) rfl ?_
            refine lv_aload_n hx hb dX1_takeFirstWay_48 rfl (lv_at hl 2 rfl) ?_
            refine lv_iload_n hx hb dX1_takeFirstWay_49 rfl (lv_at hl 0 rfl) ?_
            refine lv_iconst (v := 2) hx hb dX1_takeFirstWay_50 (by decide) ?_
            obtain ⟨r26, hc27, hf⟩ := bd_inv hf
            refine xcV (As := [.int x3_2, .int 2]) (rest := [.int r24, .int x3_2, .ref la]) (ws' := [(la, .inr (1, [.int lst, .int lla, .int lbw, .int lbf, .int lbd, .ref lb, .ref lc])), (lb, .inl (cF, 6, .inr (.inr (.inl lsh)))), (lc, .inl (cF, 6, .inr (.inr (.inl lsb)))), (fa, .inr (0, [.int fst, .ref fb, .int fwy, .ref fc, .int fmk, .int fwt])), (fb, .inl (cI, 24, .inl fvl)), (fc, .inl (cI, 84, .inl fpt)), (ma, .inr (2, [.ref mla, .ref mua, .ref mn, .int o22])), (mn, .inl (cI, 3, .inl mnm))]) ⟨hx, hb, hml, hown, hts⟩ (c_X0_part l D B adK adV cC cF cI cZ cM cS fa fst fb fwy fc fmk fwt fvl fpt x3_2 2  r26 hc27) (cwV 2 hts gX1_takeFirstWay_X0_part rfl rfl rfl (by decide +kernel) ⟨Nat.le_of_ble_eq_true rfl, Nat.le_of_ble_eq_true rfl⟩) (va_recv hK hP (ci := 0) (q0 := 3) rfl rfl) hK hP hD hS hB hE [3, 4, 5] rfl rfl rfl rfl rfl hl.1 rfl (Nat.le_of_ble_eq_true rfl) dX1_takeFirstWay_51 ⟨Nat.le_of_ble_eq_true rfl, Nat.le_of_ble_eq_true rfl⟩ (fun H locs hP hD hS => ?_)
            refine W.eq (g2 := F0 m 54 ls [.int r26, .int r24, .int x3_2, .ref la]) rfl ?_
            obtain ⟨⟨o28, o29, o30, o31, o32, o33, o34⟩, hc35, hf⟩ := bd_inv hf
            refine xcV (As := [.int x3_2, .int r24, .int r26]) (rest := []) (ws' := [(la, .inr (1, [.int o30, .int o31, .int o32, .int o33, .int o34, .ref lb, .ref lc])), (lb, .inl (cF, 6, .inr (.inr (.inl o28)))), (lc, .inl (cF, 6, .inr (.inr (.inl o29)))), (fa, .inr (0, [.int fst, .ref fb, .int fwy, .ref fc, .int fmk, .int fwt])), (fb, .inl (cI, 24, .inl fvl)), (fc, .inl (cI, 84, .inl fpt)), (ma, .inr (2, [.ref mla, .ref mua, .ref mn, .int o22])), (mn, .inl (cI, 3, .inl mnm))]) ⟨hx, hb, hml, hown, hts⟩ (c_X1_begin l D B adK adV cC cF cI cZ cM cS la lst lla lbw lbf lbd lb lc lsh lsb x3_2 r24 r26  (o28, o29, o30, o31, o32, o33, o34) hc35) (cwV 3 hts gX1_takeFirstWay_X1_begin rfl rfl rfl (by decide +kernel) ⟨Nat.le_of_ble_eq_true rfl, Nat.le_of_ble_eq_true rfl⟩) (va_recv hK hP (ci := 1) (q0 := 0) rfl rfl) hK hP hD hS hB hE [0, 1, 2] rfl rfl rfl rfl rfl hl.1 rfl (Nat.le_of_ble_eq_true rfl) dX1_takeFirstWay_54 ⟨Nat.le_of_ble_eq_true rfl, Nat.le_of_ble_eq_true rfl⟩ (fun H locs hP hD hS => ?_)
            refine W.eq (g2 := F0 m 57 ls []) rfl ?_
            have h1 := Option.some.inj hf
            subst h1
            rw [hQ]
            exact W.vret hx hb hr (fun t ht hW => qEnd hP hS ht) hS.2.2 dX1_takeFirstWay_57
  unfold f_X1_takeFirstWay at hf
  refine lv_iconst (v := 0) hx hb dX1_takeFirstWay_0 (by decide) ?_
  refine lv_istore_n (lv' := [(3, .int 0), (0, .ref la), (1, .ref fa), (2, .ref ma)]) hx hb dX1_takeFirstWay_1 rfl hl (by decide) rfl (fun ls hl => ?_)
  exact L2 1000 0 hf H locs ls hP hD hS (lv_sub hl [0, 1, 2, 3] rfl)
set_option maxRecDepth 100000 in
set_option maxHeartbeats 4000000 in
theorem c_X1_blend (l : Launch) (D : va_G) (B : Nat) (adK adV : Nat → Nat) (cC cF cI cZ cM cS : ClassId) (la : Nat) (lst : Int32) (lla : Int32) (lbw : Int32) (lbf : Int32) (lbd : Int32) (lb : Nat) (lc : Nat) (lsh : Nat → UInt32) (lsb : Nat → UInt32) (zz : (Nat → UInt32) × Int32 × Int32 × Int32) (hf : f_X1_blend lst lbw lbf lbd lsh lsb = some zz) : Ct l yX1_blend wsX1_blend { frames := 2, cells := 0, slots := 0, locals := 43 } D B adK adV (tysX cC cF cI cZ cM cS) [.ref la] [(la, .inr (1, [.int lst, .int lla, .int lbw, .int lbf, .int lbd, .ref lb, .ref lc])), (lb, .inl (cF, 6, .inr (.inr (.inl lsh)))), (lc, .inl (cF, 6, .inr (.inr (.inl lsb))))] [(la, .inr (1, [.int lst, .int lla, .int zz.2.1, .int zz.2.2.1, .int zz.2.2.2, .ref lb, .ref lc])), (lb, .inl (cF, 6, .inr (.inr (.inl zz.1)))), (lc, .inl (cF, 6, .inr (.inr (.inl lsb))))] none := by
  refine Ct.ofW (cc := cX1_blend) (maxL := 4) (ret := none) (by decide) rfl (Nat.le_of_ble_eq_true rfl) ?_
  intro p e s m args below meth c hx hb hr hml hts hown hlocks hnm hK hE A Q hQ hB H locs ls hP hD hS hl
  have hl : lv_has ls 4 [(0, .ref la)] := hl
  have w0 : ∀ w ∈ u_ws RX1 TX1 7, w ∈ wsX1_blend := by decide +kernel
  have w1 := hts (.fieldLink RX1 31 "MotionStates$Layer" "blendDone" "I") (by decide +kernel)
  have w2 := hts (.fieldLink RX1 28 "MotionStates$Layer" "blendFrames" "I") (by decide +kernel)
  have w3 := hts (.fieldLink RX1 19 "MotionStates$Layer" "sharesBefore" "[F") (by decide +kernel)
  have w4 := hts (.fieldLink RX1 15 "MotionStates$Layer" "shares" "[F") (by decide +kernel)
  have w5 := hts (.fieldLink RX1 22 "MotionStates$Layer" "state" "I") (by decide +kernel)
  have L40 : ∀ (n : Nat) (x2_40 : Int32) (lsh_40 : Nat → UInt32) (oo : Int32 × (Nat → UInt32)), f_X1_blend_L40 lbd lbf lsb lst n x2_40 lsh_40 = some oo → ∀ (H : Heap) (locs : List Loc) (ls : Array Slot), va_P D vwCl [(la, .inr (1, [.int lst, .int lla, .int lbw, .int lbf, .int (lbd + 1), .ref lb, .ref lc])), (lb, .inl (cF, 6, .inr (.inr (.inl lsh_40)))), (lc, .inl (cF, 6, .inr (.inr (.inl lsb))))] H → va_D A [(la, .inr (1, [.int lst, .int lla, .int lbw, .int lbf, .int (lbd + 1), .ref lb, .ref lc])), (lb, .inl (cF, 6, .inr (.inr (.inl lsh_40)))), (lc, .inl (cF, 6, .inr (.inr (.inl lsb))))] → va_S A s.heap H locs → lv_has ls 4 [(2, .int x2_40), (1, .float (FP.fdiv (FP.i2f (lbd + 1)) (FP.i2f lbf))), (0, .ref la)] → (∀ (H : Heap) (locs : List Loc) (ls : Array Slot), va_P D vwCl [(la, .inr (1, [.int lst, .int lla, .int lbw, .int lbf, .int (lbd + 1), .ref lb, .ref lc])), (lb, .inl (cF, 6, .inr (.inr (.inl oo.2)))), (lc, .inl (cF, 6, .inr (.inr (.inl lsb))))] H → va_D A [(la, .inr (1, [.int lst, .int lla, .int lbw, .int lbf, .int (lbd + 1), .ref lb, .ref lc])), (lb, .inl (cF, 6, .inr (.inr (.inl oo.2)))), (lc, .inl (cF, 6, .inr (.inr (.inl lsb))))] → va_S A s.heap H locs → lv_has ls 4 [(2, .int oo.1), (1, .float (FP.fdiv (FP.i2f (lbd + 1)) (FP.i2f lbf))), (0, .ref la)] → W p l e { frames := 2, cells := 0, slots := 0, locals := 43 } s m args below meth c H locs 0 0 Q (F0 m 84 ls [])) → W p l e { frames := 2, cells := 0, slots := 0, locals := 43 } s m args below meth c H locs 0 0 Q (F0 m 40 ls []) := by
    intro n
    induction n with
    | zero => intro x2_40 lsh_40 oo hf; exact absurd hf (by simp [f_X1_blend_L40])
    | succ n ih =>
      intro x2_40 lsh_40 oo hf H locs ls hP hD hS hl kk
      rw [f_X1_blend_L40] at hf
      refine lv_iload_n hx hb dX1_blend_40 rfl (lv_at hl 0 rfl) ?_
      refine lv_bipush (v := 6) hx hb dX1_blend_41 (by decide) ?_
      refine lv_icmp_ge (tgt := 84) hx hb dX1_blend_43 (by decide) (fun c3 => ?_) (fun c3 => ?_)
      · have hf := if_p c3 hf
        have h1 := Option.some.inj hf
        subst h1
        exact kk H locs ls hP hD hS (lv_sub hl [0, 1, 2] rfl)
      · have hf := if_n c3 hf
        refine lv_aload_n hx hb dX1_blend_46 rfl (lv_at hl 2 rfl) ?_
        refine va_get (D := D) (ci := 1) (v := .ref lc) (C := RX1) (T := TX1) (N := 7) hx hb hts w0 hown hK hP 0 rfl rfl 6 (by decide) w3 (fun _ h9 => h9) rfl dX1_blend_47 ?_
        refine lv_iload_n hx hb dX1_blend_50 rfl (lv_at hl 0 rfl) ?_
        obtain ⟨g4, hf⟩ := gd_inv hf
        refine va_fald hx hb hK hP 2 1 rfl rfl g4 dX1_blend_51 ?_
        refine lv_fconst1 hx hb dX1_blend_52 ?_
        refine lv_fload_n hx hb dX1_blend_53 rfl (lv_at hl 1 rfl) ?_
        obtain ⟨g5, hf⟩ := gd_inv hf
        refine lv_fsub hx hb dX1_blend_54 g5 ?_
        obtain ⟨g6, hf⟩ := gd_inv hf
        refine lv_fmul hx hb dX1_blend_55 g6 ?_
        refine lv_fstore_n (lv' := [(3, .float (FP.fmul (lsb x2_40.toNatClampNeg) (FP.fsub FP.fconst1 (FP.fdiv (FP.i2f (lbd + 1)) (FP.i2f lbf))))), (2, .int x2_40), (1, .float (FP.fdiv (FP.i2f (lbd + 1)) (FP.i2f lbf))), (0, .ref la)]) hx hb dX1_blend_56 rfl hl (by decide) rfl (fun ls hl => ?_)
        refine lv_aload_n hx hb dX1_blend_57 rfl (lv_at hl 3 rfl) ?_
        refine va_get (D := D) (ci := 1) (v := .ref lb) (C := RX1) (T := TX1) (N := 7) hx hb hts w0 hown hK hP 0 rfl rfl 5 (by decide) w4 (fun _ h9 => h9) rfl dX1_blend_58 ?_
        refine lv_iload_n hx hb dX1_blend_61 rfl (lv_at hl 1 rfl) ?_
        refine lv_iload_n hx hb dX1_blend_62 rfl (lv_at hl 1 rfl) ?_
        refine lv_aload_n hx hb dX1_blend_63 rfl (lv_at hl 3 rfl) ?_
        refine va_get (D := D) (ci := 1) (v := .int lst) (C := RX1) (T := TX1) (N := 7) hx hb hts w0 hown hK hP 0 rfl rfl 0 (by decide) w5 (fun _ h9 => h9) rfl dX1_blend_64 ?_
        refine lv_icmp_ne (tgt := 76) hx hb dX1_blend_67 (by decide) (fun c7 => ?_) (fun c7 => ?_)
        · have hf := if_n c7 hf
          refine lv_fload_n hx hb dX1_blend_76 rfl (lv_at hl 0 rfl) ?_
          obtain ⟨g8, hf⟩ := gd_inv hf
          refine va_fast hx hb hK hP hD hS 1 1 rfl rfl g8 dX1_blend_77 (fun H locs hP hD hS => ?_)
          have hP : va_P D vwCl [(la, .inr (1, [.int lst, .int lla, .int lbw, .int lbf, .int (lbd + 1), .ref lb, .ref lc])), (lb, .inl (cF, 6, .inr (.inr (.inl (vf_upd lsh_40 x2_40.toNatClampNeg (FP.fmul (lsb x2_40.toNatClampNeg) (FP.fsub FP.fconst1 (FP.fdiv (FP.i2f (lbd + 1)) (FP.i2f lbf))))))))), (lc, .inl (cF, 6, .inr (.inr (.inl lsb))))] H := hP
          have hD : va_D A [(la, .inr (1, [.int lst, .int lla, .int lbw, .int lbf, .int (lbd + 1), .ref lb, .ref lc])), (lb, .inl (cF, 6, .inr (.inr (.inl (vf_upd lsh_40 x2_40.toNatClampNeg (FP.fmul (lsb x2_40.toNatClampNeg) (FP.fsub FP.fconst1 (FP.fdiv (FP.i2f (lbd + 1)) (FP.i2f lbf))))))))), (lc, .inl (cF, 6, .inr (.inr (.inl lsb))))] := hD
          refine lv_iinc (v := x2_40 + 1) (lv' := [(2, .int (x2_40 + 1)), (3, .float (FP.fmul (lsb x2_40.toNatClampNeg) (FP.fsub FP.fconst1 (FP.fdiv (FP.i2f (lbd + 1)) (FP.i2f lbf))))), (1, .float (FP.fdiv (FP.i2f (lbd + 1)) (FP.i2f lbf))), (0, .ref la)]) hx hb dX1_blend_78 hl (k := 1) rfl rfl (by decide) rfl (fun ls hl => ?_)
          refine lv_goto (tgt := 40) hx hb dX1_blend_81 (by decide) ?_
          exact ih (x2_40 + 1) (vf_upd lsh_40 x2_40.toNatClampNeg (FP.fmul (lsb x2_40.toNatClampNeg) (FP.fsub FP.fconst1 (FP.fdiv (FP.i2f (lbd + 1)) (FP.i2f lbf))))) oo hf H locs ls hP hD hS (lv_sub hl [0, 2, 3] rfl) kk
        · have hf := if_p c7 hf
          refine lv_fload_n hx hb dX1_blend_70 rfl (lv_at hl 0 rfl) ?_
          refine lv_fload_n hx hb dX1_blend_71 rfl (lv_at hl 2 rfl) ?_
          obtain ⟨g9, hf⟩ := gd_inv hf
          refine lv_fadd hx hb dX1_blend_72 g9 ?_
          refine lv_goto (tgt := 77) hx hb dX1_blend_73 (by decide) ?_
          obtain ⟨g10, hf⟩ := gd_inv hf
          refine va_fast hx hb hK hP hD hS 1 1 rfl rfl g10 dX1_blend_77 (fun H locs hP hD hS => ?_)
          have hP : va_P D vwCl [(la, .inr (1, [.int lst, .int lla, .int lbw, .int lbf, .int (lbd + 1), .ref lb, .ref lc])), (lb, .inl (cF, 6, .inr (.inr (.inl (vf_upd lsh_40 x2_40.toNatClampNeg (FP.fadd (FP.fmul (lsb x2_40.toNatClampNeg) (FP.fsub FP.fconst1 (FP.fdiv (FP.i2f (lbd + 1)) (FP.i2f lbf)))) (FP.fdiv (FP.i2f (lbd + 1)) (FP.i2f lbf)))))))), (lc, .inl (cF, 6, .inr (.inr (.inl lsb))))] H := hP
          have hD : va_D A [(la, .inr (1, [.int lst, .int lla, .int lbw, .int lbf, .int (lbd + 1), .ref lb, .ref lc])), (lb, .inl (cF, 6, .inr (.inr (.inl (vf_upd lsh_40 x2_40.toNatClampNeg (FP.fadd (FP.fmul (lsb x2_40.toNatClampNeg) (FP.fsub FP.fconst1 (FP.fdiv (FP.i2f (lbd + 1)) (FP.i2f lbf)))) (FP.fdiv (FP.i2f (lbd + 1)) (FP.i2f lbf)))))))), (lc, .inl (cF, 6, .inr (.inr (.inl lsb))))] := hD
          refine lv_iinc (v := x2_40 + 1) (lv' := [(2, .int (x2_40 + 1)), (3, .float (FP.fmul (lsb x2_40.toNatClampNeg) (FP.fsub FP.fconst1 (FP.fdiv (FP.i2f (lbd + 1)) (FP.i2f lbf))))), (1, .float (FP.fdiv (FP.i2f (lbd + 1)) (FP.i2f lbf))), (0, .ref la)]) hx hb dX1_blend_78 hl (k := 1) rfl rfl (by decide) rfl (fun ls hl => ?_)
          refine lv_goto (tgt := 40) hx hb dX1_blend_81 (by decide) ?_
          exact ih (x2_40 + 1) (vf_upd lsh_40 x2_40.toNatClampNeg (FP.fadd (FP.fmul (lsb x2_40.toNatClampNeg) (FP.fsub FP.fconst1 (FP.fdiv (FP.i2f (lbd + 1)) (FP.i2f lbf)))) (FP.fdiv (FP.i2f (lbd + 1)) (FP.i2f lbf)))) oo hf H locs ls hP hD hS (lv_sub hl [0, 2, 3] rfl) kk
  unfold f_X1_blend at hf
  refine lv_aload_n hx hb dX1_blend_0 rfl (lv_at hl 0 rfl) ?_
  refine lv_dup hx hb dX1_blend_1 rfl ?_
  refine va_get (D := D) (ci := 1) (v := .int lbd) (C := RX1) (T := TX1) (N := 7) hx hb hts w0 hown hK hP 0 rfl rfl 4 (by decide) w1 (fun _ h9 => h9) rfl dX1_blend_2 ?_
  refine lv_iconst (v := 1) hx hb dX1_blend_5 (by decide) ?_
  refine lv_iadd hx hb dX1_blend_6 ?_
  refine va_put (D := D) (ci := 1) (v := .int (lbd + 1)) (ty := .int) (C := RX1) (T := TX1) (N := 7) hx hb hts w0 tyX1 tyX1_ok nmX1 hown hK hP hD hS 0 rfl rfl 4 (by decide) w1 (fun _ h9 => h9) rfl (by decide +kernel) rfl rfl (Nat.le_of_ble_eq_true rfl) dX1_blend_7 (fun H locs hP hD hS => ?_)
  have hP : va_P D vwCl [(la, .inr (1, [.int lst, .int lla, .int lbw, .int lbf, .int (lbd + 1), .ref lb, .ref lc])), (lb, .inl (cF, 6, .inr (.inr (.inl lsh)))), (lc, .inl (cF, 6, .inr (.inr (.inl lsb))))] H := hP
  have hD : va_D A [(la, .inr (1, [.int lst, .int lla, .int lbw, .int lbf, .int (lbd + 1), .ref lb, .ref lc])), (lb, .inl (cF, 6, .inr (.inr (.inl lsh)))), (lc, .inl (cF, 6, .inr (.inr (.inl lsb))))] := hD
  refine lv_aload_n hx hb dX1_blend_10 rfl (lv_at hl 0 rfl) ?_
  refine va_get (D := D) (ci := 1) (v := .int (lbd + 1)) (C := RX1) (T := TX1) (N := 7) hx hb hts w0 hown hK hP 0 rfl rfl 4 (by decide) w1 (fun _ h9 => h9) rfl dX1_blend_11 ?_
  refine lv_aload_n hx hb dX1_blend_14 rfl (lv_at hl 0 rfl) ?_
  refine va_get (D := D) (ci := 1) (v := .int lbf) (C := RX1) (T := TX1) (N := 7) hx hb hts w0 hown hK hP 0 rfl rfl 3 (by decide) w2 (fun _ h9 => h9) rfl dX1_blend_15 ?_
  refine lv_icmp_lt (tgt := 26) hx hb dX1_blend_18 (by decide) (fun c1 => ?_) (fun c1 => ?_)
  · have hf := if_p c1 hf
    refine lv_aload_n hx hb dX1_blend_26 rfl (lv_at hl 0 rfl) ?_
    refine va_get (D := D) (ci := 1) (v := .int (lbd + 1)) (C := RX1) (T := TX1) (N := 7) hx hb hts w0 hown hK hP 0 rfl rfl 4 (by decide) w1 (fun _ h9 => h9) rfl dX1_blend_27 ?_
    refine lv_i2f hx hb dX1_blend_30 ?_
    refine lv_aload_n hx hb dX1_blend_31 rfl (lv_at hl 0 rfl) ?_
    refine va_get (D := D) (ci := 1) (v := .int lbf) (C := RX1) (T := TX1) (N := 7) hx hb hts w0 hown hK hP 0 rfl rfl 3 (by decide) w2 (fun _ h9 => h9) rfl dX1_blend_32 ?_
    refine lv_i2f hx hb dX1_blend_35 ?_
    obtain ⟨g2, hf⟩ := gd_inv hf
    refine lv_fdiv hx hb dX1_blend_36 g2 ?_
    refine lv_fstore_n (lv' := [(1, .float (FP.fdiv (FP.i2f (lbd + 1)) (FP.i2f lbf))), (0, .ref la)]) hx hb dX1_blend_37 rfl hl (by decide) rfl (fun ls hl => ?_)
    refine lv_iconst (v := 0) hx hb dX1_blend_38 (by decide) ?_
    refine lv_istore_n (lv' := [(2, .int 0), (1, .float (FP.fdiv (FP.i2f (lbd + 1)) (FP.i2f lbf))), (0, .ref la)]) hx hb dX1_blend_39 rfl hl (by decide) rfl (fun ls hl => ?_)
    obtain ⟨⟨q11, q12⟩, hq13, hf⟩ := bd_inv hf
    refine L40 1000 0 lsh (q11, q12) hq13 H locs ls hP hD hS (lv_sub hl [0, 1, 2] rfl) (fun H locs ls hP hD hS hl => ?_)
    have hP : va_P D vwCl [(la, .inr (1, [.int lst, .int lla, .int lbw, .int lbf, .int (lbd + 1), .ref lb, .ref lc])), (lb, .inl (cF, 6, .inr (.inr (.inl q12)))), (lc, .inl (cF, 6, .inr (.inr (.inl lsb))))] H := hP
    have hD : va_D A [(la, .inr (1, [.int lst, .int lla, .int lbw, .int lbf, .int (lbd + 1), .ref lb, .ref lc])), (lb, .inl (cF, 6, .inr (.inr (.inl q12)))), (lc, .inl (cF, 6, .inr (.inr (.inl lsb))))] := hD
    have hl : lv_has ls 4 [(2, .int q11), (1, .float (FP.fdiv (FP.i2f (lbd + 1)) (FP.i2f lbf))), (0, .ref la)] := hl
    have h1 := Option.some.inj hf
    subst h1
    rw [hQ]
    exact W.vret hx hb hr (fun t ht hW => qEnd hP hS ht) hS.2.2 dX1_blend_84
  · have hf := if_n c1 hf
    refine lv_aload_n hx hb dX1_blend_21 rfl (lv_at hl 0 rfl) ?_
    obtain ⟨⟨o14, o15, o16, o17⟩, hc18, hf⟩ := bd_inv hf
    refine xcV (As := []) (rest := []) (ws' := [(la, .inr (1, [.int lst, .int lla, .int o15, .int o16, .int o17, .ref lb, .ref lc])), (lb, .inl (cF, 6, .inr (.inr (.inl o14)))), (lc, .inl (cF, 6, .inr (.inr (.inl lsb))))]) ⟨hx, hb, hml, hown, hts⟩ (c_X1_settle l D B adK adV cC cF cI cZ cM cS la lst lla lbw lbf (lbd + 1) lb lc lsh lsb  (o14, o15, o16, o17) hc18) (cwV 0 hts gX1_blend_X1_settle rfl rfl rfl (by decide +kernel) ⟨Nat.le_of_ble_eq_true rfl, Nat.le_of_ble_eq_true rfl⟩) (va_recv hK hP (ci := 1) (q0 := 0) rfl rfl) hK hP hD hS hB hE [0, 1, 2] rfl rfl rfl rfl rfl hl.1 rfl (Nat.le_of_ble_eq_true rfl) dX1_blend_22 ⟨Nat.le_of_ble_eq_true rfl, Nat.le_of_ble_eq_true rfl⟩ (fun H locs hP hD hS => ?_)
    refine W.eq (g2 := F0 m 25 ls []) rfl ?_
    have h1 := Option.some.inj hf
    subst h1
    rw [hQ]
    exact W.vret hx hb hr (fun t ht hW => qEnd hP hS ht) hS.2.2 dX1_blend_25
set_option maxRecDepth 100000 in
set_option maxHeartbeats 4000000 in
theorem c_X1_goOn (l : Launch) (D : va_G) (B : Nat) (adK adV : Nat → Nat) (cC cF cI cZ cM cS : ClassId) (la : Nat) (lst : Int32) (lla : Int32) (lbw : Int32) (lbf : Int32) (lbd : Int32) (lb : Nat) (lc : Nat) (lsh : Nat → UInt32) (lsb : Nat → UInt32) (fa : Nat) (fst : Int32) (fb : Nat) (fwy : Int32) (fc : Nat) (fmk : Int32) (fwt : Int32) (fvl : Nat → Int32) (fpt : Nat → Int32) (ma : Nat) (mla : Nat) (mua : Nat) (mn : Nat) (mtr : Int32) (mnm : Nat → Int32) (zz : (Nat → UInt32) × (Nat → UInt32) × Int32 × Int32 × Int32 × Int32 × Int32 × Int32) (hf : f_X1_goOn lst lla lbw lbf lbd lsh lsb fwy fpt mtr mnm = some zz) : Ct l yX1_goOn wsX1_goOn { frames := 4, cells := 0, slots := 0, locals := 114 } D B adK adV (tysX cC cF cI cZ cM cS) [.ref la, .ref fa, .ref ma] [(la, .inr (1, [.int lst, .int lla, .int lbw, .int lbf, .int lbd, .ref lb, .ref lc])), (lb, .inl (cF, 6, .inr (.inr (.inl lsh)))), (lc, .inl (cF, 6, .inr (.inr (.inl lsb)))), (fa, .inr (0, [.int fst, .ref fb, .int fwy, .ref fc, .int fmk, .int fwt])), (fb, .inl (cI, 24, .inl fvl)), (fc, .inl (cI, 84, .inl fpt)), (ma, .inr (2, [.ref mla, .ref mua, .ref mn, .int mtr])), (mn, .inl (cI, 3, .inl mnm))] [(la, .inr (1, [.int zz.2.2.1, .int zz.2.2.2.1, .int zz.2.2.2.2.1, .int zz.2.2.2.2.2.1, .int zz.2.2.2.2.2.2.1, .ref lb, .ref lc])), (lb, .inl (cF, 6, .inr (.inr (.inl zz.1)))), (lc, .inl (cF, 6, .inr (.inr (.inl zz.2.1)))), (fa, .inr (0, [.int fst, .ref fb, .int fwy, .ref fc, .int fmk, .int fwt])), (fb, .inl (cI, 24, .inl fvl)), (fc, .inl (cI, 84, .inl fpt)), (ma, .inr (2, [.ref mla, .ref mua, .ref mn, .int zz.2.2.2.2.2.2.2])), (mn, .inl (cI, 3, .inl mnm))] none := by
  refine Ct.ofW (cc := cX1_goOn) (maxL := 3) (ret := none) (by decide) rfl (Nat.le_of_ble_eq_true rfl) ?_
  intro p e s m args below meth c hx hb hr hml hts hown hlocks hnm hK hE A Q hQ hB H locs ls hP hD hS hl
  have hl : lv_has ls 3 [(0, .ref la), (1, .ref fa), (2, .ref ma)] := hl
  have w0 : ∀ w ∈ u_ws RX1 TX1 7, w ∈ wsX1_goOn := by decide +kernel
  have w1 := hts (.fieldLink RX1 25 "MotionStates$Layer" "lasted" "I") (by decide +kernel)
  have w2 := hts (.methodLink RX1 57 Lib.Math.min.name) (by decide +kernel)
  have w3 := hts (.static Lib.Math.min.name) (by decide +kernel)
  have w4 := hts (.initialized "java/lang/Math") (by decide +kernel)
  have w5 := hts (.code Lib.Math.min.name Lib.Math.min.code 2 (some .int)) (by decide +kernel)
  have w6 := hts (.fieldLink RX1 9 "MotionStates$Layer" "blendWay" "I") (by decide +kernel)
  unfold f_X1_goOn at hf
  refine lv_aload_n hx hb dX1_goOn_0 rfl (lv_at hl 0 rfl) ?_
  obtain ⟨r1, hc2, hf⟩ := bd_inv hf
  refine xcV (As := []) (rest := []) (ws' := [(la, .inr (1, [.int lst, .int lla, .int lbw, .int lbf, .int lbd, .ref lb, .ref lc])), (lb, .inl (cF, 6, .inr (.inr (.inl lsh)))), (lc, .inl (cF, 6, .inr (.inr (.inl lsb)))), (fa, .inr (0, [.int fst, .ref fb, .int fwy, .ref fc, .int fmk, .int fwt])), (fb, .inl (cI, 24, .inl fvl)), (fc, .inl (cI, 84, .inl fpt)), (ma, .inr (2, [.ref mla, .ref mua, .ref mn, .int mtr])), (mn, .inl (cI, 3, .inl mnm))]) ⟨hx, hb, hml, hown, hts⟩ (c_X1_isSteady l D B adK adV cC cF cI cZ cM cS la lst lla lbw lbf lbd lb lc lsh lsb  r1 hc2) (cwV 0 hts gX1_goOn_X1_isSteady rfl rfl rfl (by decide +kernel) ⟨Nat.le_of_ble_eq_true rfl, Nat.le_of_ble_eq_true rfl⟩) (va_recv hK hP (ci := 1) (q0 := 0) rfl rfl) hK hP hD hS hB hE [0, 1, 2] rfl rfl rfl rfl rfl hl.1 rfl (Nat.le_of_ble_eq_true rfl) dX1_goOn_1 ⟨Nat.le_of_ble_eq_true rfl, Nat.le_of_ble_eq_true rfl⟩ (fun H locs hP hD hS => ?_)
  refine W.eq (g2 := F0 m 4 ls [.int r1]) rfl ?_
  refine lv_if_ne (tgt := 20) hx hb dX1_goOn_4 (by decide) (fun c3 => ?_) (fun c3 => ?_)
  · have hf := if_n c3 hf
    refine lv_aload_n hx hb dX1_goOn_20 rfl (lv_at hl 0 rfl) ?_
    refine lv_aload_n hx hb dX1_goOn_21 rfl (lv_at hl 1 rfl) ?_
    refine lv_aload_n hx hb dX1_goOn_22 rfl (lv_at hl 2 rfl) ?_
    obtain ⟨⟨o4, o5, o6, o7, o8, o9, o10, o11⟩, hc12, hf⟩ := bd_inv hf
    refine xcV (As := [.ref fa, .ref ma]) (rest := []) (ws' := [(la, .inr (1, [.int o6, .int o7, .int o8, .int o9, .int o10, .ref lb, .ref lc])), (lb, .inl (cF, 6, .inr (.inr (.inl o4)))), (lc, .inl (cF, 6, .inr (.inr (.inl o5)))), (fa, .inr (0, [.int fst, .ref fb, .int fwy, .ref fc, .int fmk, .int fwt])), (fb, .inl (cI, 24, .inl fvl)), (fc, .inl (cI, 84, .inl fpt)), (ma, .inr (2, [.ref mla, .ref mua, .ref mn, .int o11])), (mn, .inl (cI, 3, .inl mnm))]) ⟨hx, hb, hml, hown, hts⟩ (c_X1_takeFirstWay l D B adK adV cC cF cI cZ cM cS la lst lla lbw lbf lbd lb lc lsh lsb fa fst fb fwy fc fmk fwt fvl fpt ma mla mua mn mtr mnm  (o4, o5, o6, o7, o8, o9, o10, o11) hc12) (cwV 2 hts gX1_goOn_X1_takeFirstWay rfl rfl rfl (by decide +kernel) ⟨Nat.le_of_ble_eq_true rfl, Nat.le_of_ble_eq_true rfl⟩) (va_recv hK hP (ci := 1) (q0 := 0) rfl rfl) hK hP hD hS hB hE [0, 1, 2, 3, 4, 5, 6, 7] rfl rfl rfl rfl rfl hl.1 rfl (Nat.le_of_ble_eq_true rfl) dX1_goOn_23 ⟨Nat.le_of_ble_eq_true rfl, Nat.le_of_ble_eq_true rfl⟩ (fun H locs hP hD hS => ?_)
    refine W.eq (g2 := F0 m 26 ls []) rfl ?_
    refine lv_aload_n hx hb dX1_goOn_26 rfl (lv_at hl 0 rfl) ?_
    refine lv_aload_n hx hb dX1_goOn_27 rfl (lv_at hl 0 rfl) ?_
    refine va_get (D := D) (ci := 1) (v := .int o7) (C := RX1) (T := TX1) (N := 7) hx hb hts w0 hown hK hP 0 rfl rfl 1 (by decide) w1 (fun _ h9 => h9) rfl dX1_goOn_28 ?_
    refine lv_iconst (v := 1) hx hb dX1_goOn_31 (by decide) ?_
    refine lv_iadd hx hb dX1_goOn_32 ?_
    refine lv_sipush (v := 9999) hx hb dX1_goOn_33 (by decide) ?_
    refine va_mmin hx hb (hml.trans hl.1.symm) hown w2 w3 w4 w5 (Nat.le_of_ble_eq_true rfl) (Nat.le_of_ble_eq_true rfl) (Nat.zero_le _) (Nat.zero_le _) dX1_goOn_36 ?_
    refine va_put (D := D) (ci := 1) (v := .int (if 9999 < (o7 + 1) then 9999 else (o7 + 1))) (ty := .int) (C := RX1) (T := TX1) (N := 7) hx hb hts w0 tyX1 tyX1_ok nmX1 hown hK hP hD hS 0 rfl rfl 1 (by decide) w1 (fun _ h9 => h9) rfl (by decide +kernel) rfl rfl (Nat.le_of_ble_eq_true rfl) dX1_goOn_39 (fun H locs hP hD hS => ?_)
    have hP : va_P D vwCl [(la, .inr (1, [.int o6, .int (if 9999 < (o7 + 1) then 9999 else (o7 + 1)), .int o8, .int o9, .int o10, .ref lb, .ref lc])), (lb, .inl (cF, 6, .inr (.inr (.inl o4)))), (lc, .inl (cF, 6, .inr (.inr (.inl o5)))), (fa, .inr (0, [.int fst, .ref fb, .int fwy, .ref fc, .int fmk, .int fwt])), (fb, .inl (cI, 24, .inl fvl)), (fc, .inl (cI, 84, .inl fpt)), (ma, .inr (2, [.ref mla, .ref mua, .ref mn, .int o11])), (mn, .inl (cI, 3, .inl mnm))] H := hP
    have hD : va_D A [(la, .inr (1, [.int o6, .int (if 9999 < (o7 + 1) then 9999 else (o7 + 1)), .int o8, .int o9, .int o10, .ref lb, .ref lc])), (lb, .inl (cF, 6, .inr (.inr (.inl o4)))), (lc, .inl (cF, 6, .inr (.inr (.inl o5)))), (fa, .inr (0, [.int fst, .ref fb, .int fwy, .ref fc, .int fmk, .int fwt])), (fb, .inl (cI, 24, .inl fvl)), (fc, .inl (cI, 84, .inl fpt)), (ma, .inr (2, [.ref mla, .ref mua, .ref mn, .int o11])), (mn, .inl (cI, 3, .inl mnm))] := hD
    refine lv_aload_n hx hb dX1_goOn_42 rfl (lv_at hl 0 rfl) ?_
    obtain ⟨r13, hc14, hf⟩ := bd_inv hf
    refine xcV (As := []) (rest := []) (ws' := [(la, .inr (1, [.int o6, .int (if 9999 < (o7 + 1) then 9999 else (o7 + 1)), .int o8, .int o9, .int o10, .ref lb, .ref lc])), (lb, .inl (cF, 6, .inr (.inr (.inl o4)))), (lc, .inl (cF, 6, .inr (.inr (.inl o5)))), (fa, .inr (0, [.int fst, .ref fb, .int fwy, .ref fc, .int fmk, .int fwt])), (fb, .inl (cI, 24, .inl fvl)), (fc, .inl (cI, 84, .inl fpt)), (ma, .inr (2, [.ref mla, .ref mua, .ref mn, .int o11])), (mn, .inl (cI, 3, .inl mnm))]) ⟨hx, hb, hml, hown, hts⟩ (c_X1_isSteady l D B adK adV cC cF cI cZ cM cS la o6 (if 9999 < (o7 + 1) then 9999 else (o7 + 1)) o8 o9 o10 lb lc o4 o5  r13 hc14) (cwV 0 hts gX1_goOn_X1_isSteady rfl rfl rfl (by decide +kernel) ⟨Nat.le_of_ble_eq_true rfl, Nat.le_of_ble_eq_true rfl⟩) (va_recv hK hP (ci := 1) (q0 := 0) rfl rfl) hK hP hD hS hB hE [0, 1, 2] rfl rfl rfl rfl rfl hl.1 rfl (Nat.le_of_ble_eq_true rfl) dX1_goOn_43 ⟨Nat.le_of_ble_eq_true rfl, Nat.le_of_ble_eq_true rfl⟩ (fun H locs hP hD hS => ?_)
    refine W.eq (g2 := F0 m 46 ls [.int r13]) rfl ?_
    refine lv_if_ne (tgt := 53) hx hb dX1_goOn_46 (by decide) (fun c15 => ?_) (fun c15 => ?_)
    · have hf := if_n c15 hf
      have h1 := Option.some.inj hf
      subst h1
      rw [hQ]
      exact W.vret hx hb hr (fun t ht hW => qEnd hP hS ht) hS.2.2 dX1_goOn_53
    · have hf := if_p c15 hf
      refine lv_aload_n hx hb dX1_goOn_49 rfl (lv_at hl 0 rfl) ?_
      obtain ⟨⟨o16, o17, o18, o19⟩, hc20, hf⟩ := bd_inv hf
      refine xcV (As := []) (rest := []) (ws' := [(la, .inr (1, [.int o6, .int (if 9999 < (o7 + 1) then 9999 else (o7 + 1)), .int o17, .int o18, .int o19, .ref lb, .ref lc])), (lb, .inl (cF, 6, .inr (.inr (.inl o16)))), (lc, .inl (cF, 6, .inr (.inr (.inl o5)))), (fa, .inr (0, [.int fst, .ref fb, .int fwy, .ref fc, .int fmk, .int fwt])), (fb, .inl (cI, 24, .inl fvl)), (fc, .inl (cI, 84, .inl fpt)), (ma, .inr (2, [.ref mla, .ref mua, .ref mn, .int o11])), (mn, .inl (cI, 3, .inl mnm))]) ⟨hx, hb, hml, hown, hts⟩ (c_X1_blend l D B adK adV cC cF cI cZ cM cS la o6 (if 9999 < (o7 + 1) then 9999 else (o7 + 1)) o8 o9 o10 lb lc o4 o5  (o16, o17, o18, o19) hc20) (cwV 0 hts gX1_goOn_X1_blend rfl rfl rfl (by decide +kernel) ⟨Nat.le_of_ble_eq_true rfl, Nat.le_of_ble_eq_true rfl⟩) (va_recv hK hP (ci := 1) (q0 := 0) rfl rfl) hK hP hD hS hB hE [0, 1, 2] rfl rfl rfl rfl rfl hl.1 rfl (Nat.le_of_ble_eq_true rfl) dX1_goOn_50 ⟨Nat.le_of_ble_eq_true rfl, Nat.le_of_ble_eq_true rfl⟩ (fun H locs hP hD hS => ?_)
      refine W.eq (g2 := F0 m 53 ls []) rfl ?_
      have h1 := Option.some.inj hf
      subst h1
      rw [hQ]
      exact W.vret hx hb hr (fun t ht hW => qEnd hP hS ht) hS.2.2 dX1_goOn_53
  · have hf := if_p c3 hf
    refine lv_aload_n hx hb dX1_goOn_7 rfl (lv_at hl 1 rfl) ?_
    refine lv_aload_n hx hb dX1_goOn_8 rfl (lv_at hl 0 rfl) ?_
    refine va_get (D := D) (ci := 1) (v := .int lbw) (C := RX1) (T := TX1) (N := 7) hx hb hts w0 hown hK hP 0 rfl rfl 2 (by decide) w6 (fun _ h9 => h9) rfl dX1_goOn_9 ?_
    refine lv_iconst (v := 3) hx hb dX1_goOn_12 (by decide) ?_
    obtain ⟨r21, hc22, hf⟩ := bd_inv hf
    refine xcV (As := [.int lbw, .int 3]) (rest := []) (ws' := [(la, .inr (1, [.int lst, .int lla, .int lbw, .int lbf, .int lbd, .ref lb, .ref lc])), (lb, .inl (cF, 6, .inr (.inr (.inl lsh)))), (lc, .inl (cF, 6, .inr (.inr (.inl lsb)))), (fa, .inr (0, [.int fst, .ref fb, .int fwy, .ref fc, .int fmk, .int fwt])), (fb, .inl (cI, 24, .inl fvl)), (fc, .inl (cI, 84, .inl fpt)), (ma, .inr (2, [.ref mla, .ref mua, .ref mn, .int mtr])), (mn, .inl (cI, 3, .inl mnm))]) ⟨hx, hb, hml, hown, hts⟩ (c_X0_part l D B adK adV cC cF cI cZ cM cS fa fst fb fwy fc fmk fwt fvl fpt lbw 3  r21 hc22) (cwV 2 hts gX1_goOn_X0_part rfl rfl rfl (by decide +kernel) ⟨Nat.le_of_ble_eq_true rfl, Nat.le_of_ble_eq_true rfl⟩) (va_recv hK hP (ci := 0) (q0 := 3) rfl rfl) hK hP hD hS hB hE [3, 4, 5] rfl rfl rfl rfl rfl hl.1 rfl (Nat.le_of_ble_eq_true rfl) dX1_goOn_13 ⟨Nat.le_of_ble_eq_true rfl, Nat.le_of_ble_eq_true rfl⟩ (fun H locs hP hD hS => ?_)
    refine W.eq (g2 := F0 m 16 ls [.int r21]) rfl ?_
    refine lv_iconst (v := 1) hx hb dX1_goOn_16 (by decide) ?_
    refine lv_icmp_ne (tgt := 26) hx hb dX1_goOn_17 (by decide) (fun c23 => ?_) (fun c23 => ?_)
    · have hf := if_n c23 hf
      refine lv_aload_n hx hb dX1_goOn_26 rfl (lv_at hl 0 rfl) ?_
      refine lv_aload_n hx hb dX1_goOn_27 rfl (lv_at hl 0 rfl) ?_
      refine va_get (D := D) (ci := 1) (v := .int lla) (C := RX1) (T := TX1) (N := 7) hx hb hts w0 hown hK hP 0 rfl rfl 1 (by decide) w1 (fun _ h9 => h9) rfl dX1_goOn_28 ?_
      refine lv_iconst (v := 1) hx hb dX1_goOn_31 (by decide) ?_
      refine lv_iadd hx hb dX1_goOn_32 ?_
      refine lv_sipush (v := 9999) hx hb dX1_goOn_33 (by decide) ?_
      refine va_mmin hx hb (hml.trans hl.1.symm) hown w2 w3 w4 w5 (Nat.le_of_ble_eq_true rfl) (Nat.le_of_ble_eq_true rfl) (Nat.zero_le _) (Nat.zero_le _) dX1_goOn_36 ?_
      refine va_put (D := D) (ci := 1) (v := .int (if 9999 < (lla + 1) then 9999 else (lla + 1))) (ty := .int) (C := RX1) (T := TX1) (N := 7) hx hb hts w0 tyX1 tyX1_ok nmX1 hown hK hP hD hS 0 rfl rfl 1 (by decide) w1 (fun _ h9 => h9) rfl (by decide +kernel) rfl rfl (Nat.le_of_ble_eq_true rfl) dX1_goOn_39 (fun H locs hP hD hS => ?_)
      have hP : va_P D vwCl [(la, .inr (1, [.int lst, .int (if 9999 < (lla + 1) then 9999 else (lla + 1)), .int lbw, .int lbf, .int lbd, .ref lb, .ref lc])), (lb, .inl (cF, 6, .inr (.inr (.inl lsh)))), (lc, .inl (cF, 6, .inr (.inr (.inl lsb)))), (fa, .inr (0, [.int fst, .ref fb, .int fwy, .ref fc, .int fmk, .int fwt])), (fb, .inl (cI, 24, .inl fvl)), (fc, .inl (cI, 84, .inl fpt)), (ma, .inr (2, [.ref mla, .ref mua, .ref mn, .int mtr])), (mn, .inl (cI, 3, .inl mnm))] H := hP
      have hD : va_D A [(la, .inr (1, [.int lst, .int (if 9999 < (lla + 1) then 9999 else (lla + 1)), .int lbw, .int lbf, .int lbd, .ref lb, .ref lc])), (lb, .inl (cF, 6, .inr (.inr (.inl lsh)))), (lc, .inl (cF, 6, .inr (.inr (.inl lsb)))), (fa, .inr (0, [.int fst, .ref fb, .int fwy, .ref fc, .int fmk, .int fwt])), (fb, .inl (cI, 24, .inl fvl)), (fc, .inl (cI, 84, .inl fpt)), (ma, .inr (2, [.ref mla, .ref mua, .ref mn, .int mtr])), (mn, .inl (cI, 3, .inl mnm))] := hD
      refine lv_aload_n hx hb dX1_goOn_42 rfl (lv_at hl 0 rfl) ?_
      obtain ⟨r24, hc25, hf⟩ := bd_inv hf
      refine xcV (As := []) (rest := []) (ws' := [(la, .inr (1, [.int lst, .int (if 9999 < (lla + 1) then 9999 else (lla + 1)), .int lbw, .int lbf, .int lbd, .ref lb, .ref lc])), (lb, .inl (cF, 6, .inr (.inr (.inl lsh)))), (lc, .inl (cF, 6, .inr (.inr (.inl lsb)))), (fa, .inr (0, [.int fst, .ref fb, .int fwy, .ref fc, .int fmk, .int fwt])), (fb, .inl (cI, 24, .inl fvl)), (fc, .inl (cI, 84, .inl fpt)), (ma, .inr (2, [.ref mla, .ref mua, .ref mn, .int mtr])), (mn, .inl (cI, 3, .inl mnm))]) ⟨hx, hb, hml, hown, hts⟩ (c_X1_isSteady l D B adK adV cC cF cI cZ cM cS la lst (if 9999 < (lla + 1) then 9999 else (lla + 1)) lbw lbf lbd lb lc lsh lsb  r24 hc25) (cwV 0 hts gX1_goOn_X1_isSteady rfl rfl rfl (by decide +kernel) ⟨Nat.le_of_ble_eq_true rfl, Nat.le_of_ble_eq_true rfl⟩) (va_recv hK hP (ci := 1) (q0 := 0) rfl rfl) hK hP hD hS hB hE [0, 1, 2] rfl rfl rfl rfl rfl hl.1 rfl (Nat.le_of_ble_eq_true rfl) dX1_goOn_43 ⟨Nat.le_of_ble_eq_true rfl, Nat.le_of_ble_eq_true rfl⟩ (fun H locs hP hD hS => ?_)
      refine W.eq (g2 := F0 m 46 ls [.int r24]) rfl ?_
      refine lv_if_ne (tgt := 53) hx hb dX1_goOn_46 (by decide) (fun c26 => ?_) (fun c26 => ?_)
      · have hf := if_n c26 hf
        have h1 := Option.some.inj hf
        subst h1
        rw [hQ]
        exact W.vret hx hb hr (fun t ht hW => qEnd hP hS ht) hS.2.2 dX1_goOn_53
      · have hf := if_p c26 hf
        refine lv_aload_n hx hb dX1_goOn_49 rfl (lv_at hl 0 rfl) ?_
        obtain ⟨⟨o27, o28, o29, o30⟩, hc31, hf⟩ := bd_inv hf
        refine xcV (As := []) (rest := []) (ws' := [(la, .inr (1, [.int lst, .int (if 9999 < (lla + 1) then 9999 else (lla + 1)), .int o28, .int o29, .int o30, .ref lb, .ref lc])), (lb, .inl (cF, 6, .inr (.inr (.inl o27)))), (lc, .inl (cF, 6, .inr (.inr (.inl lsb)))), (fa, .inr (0, [.int fst, .ref fb, .int fwy, .ref fc, .int fmk, .int fwt])), (fb, .inl (cI, 24, .inl fvl)), (fc, .inl (cI, 84, .inl fpt)), (ma, .inr (2, [.ref mla, .ref mua, .ref mn, .int mtr])), (mn, .inl (cI, 3, .inl mnm))]) ⟨hx, hb, hml, hown, hts⟩ (c_X1_blend l D B adK adV cC cF cI cZ cM cS la lst (if 9999 < (lla + 1) then 9999 else (lla + 1)) lbw lbf lbd lb lc lsh lsb  (o27, o28, o29, o30) hc31) (cwV 0 hts gX1_goOn_X1_blend rfl rfl rfl (by decide +kernel) ⟨Nat.le_of_ble_eq_true rfl, Nat.le_of_ble_eq_true rfl⟩) (va_recv hK hP (ci := 1) (q0 := 0) rfl rfl) hK hP hD hS hB hE [0, 1, 2] rfl rfl rfl rfl rfl hl.1 rfl (Nat.le_of_ble_eq_true rfl) dX1_goOn_50 ⟨Nat.le_of_ble_eq_true rfl, Nat.le_of_ble_eq_true rfl⟩ (fun H locs hP hD hS => ?_)
        refine W.eq (g2 := F0 m 53 ls []) rfl ?_
        have h1 := Option.some.inj hf
        subst h1
        rw [hQ]
        exact W.vret hx hb hr (fun t ht hW => qEnd hP hS ht) hS.2.2 dX1_goOn_53
    · have hf := if_p c23 hf
      refine lv_aload_n hx hb dX1_goOn_20 rfl (lv_at hl 0 rfl) ?_
      refine lv_aload_n hx hb dX1_goOn_21 rfl (lv_at hl 1 rfl) ?_
      refine lv_aload_n hx hb dX1_goOn_22 rfl (lv_at hl 2 rfl) ?_
      obtain ⟨⟨o32, o33, o34, o35, o36, o37, o38, o39⟩, hc40, hf⟩ := bd_inv hf
      refine xcV (As := [.ref fa, .ref ma]) (rest := []) (ws' := [(la, .inr (1, [.int o34, .int o35, .int o36, .int o37, .int o38, .ref lb, .ref lc])), (lb, .inl (cF, 6, .inr (.inr (.inl o32)))), (lc, .inl (cF, 6, .inr (.inr (.inl o33)))), (fa, .inr (0, [.int fst, .ref fb, .int fwy, .ref fc, .int fmk, .int fwt])), (fb, .inl (cI, 24, .inl fvl)), (fc, .inl (cI, 84, .inl fpt)), (ma, .inr (2, [.ref mla, .ref mua, .ref mn, .int o39])), (mn, .inl (cI, 3, .inl mnm))]) ⟨hx, hb, hml, hown, hts⟩ (c_X1_takeFirstWay l D B adK adV cC cF cI cZ cM cS la lst lla lbw lbf lbd lb lc lsh lsb fa fst fb fwy fc fmk fwt fvl fpt ma mla mua mn mtr mnm  (o32, o33, o34, o35, o36, o37, o38, o39) hc40) (cwV 2 hts gX1_goOn_X1_takeFirstWay rfl rfl rfl (by decide +kernel) ⟨Nat.le_of_ble_eq_true rfl, Nat.le_of_ble_eq_true rfl⟩) (va_recv hK hP (ci := 1) (q0 := 0) rfl rfl) hK hP hD hS hB hE [0, 1, 2, 3, 4, 5, 6, 7] rfl rfl rfl rfl rfl hl.1 rfl (Nat.le_of_ble_eq_true rfl) dX1_goOn_23 ⟨Nat.le_of_ble_eq_true rfl, Nat.le_of_ble_eq_true rfl⟩ (fun H locs hP hD hS => ?_)
      refine W.eq (g2 := F0 m 26 ls []) rfl ?_
      refine lv_aload_n hx hb dX1_goOn_26 rfl (lv_at hl 0 rfl) ?_
      refine lv_aload_n hx hb dX1_goOn_27 rfl (lv_at hl 0 rfl) ?_
      refine va_get (D := D) (ci := 1) (v := .int o35) (C := RX1) (T := TX1) (N := 7) hx hb hts w0 hown hK hP 0 rfl rfl 1 (by decide) w1 (fun _ h9 => h9) rfl dX1_goOn_28 ?_
      refine lv_iconst (v := 1) hx hb dX1_goOn_31 (by decide) ?_
      refine lv_iadd hx hb dX1_goOn_32 ?_
      refine lv_sipush (v := 9999) hx hb dX1_goOn_33 (by decide) ?_
      refine va_mmin hx hb (hml.trans hl.1.symm) hown w2 w3 w4 w5 (Nat.le_of_ble_eq_true rfl) (Nat.le_of_ble_eq_true rfl) (Nat.zero_le _) (Nat.zero_le _) dX1_goOn_36 ?_
      refine va_put (D := D) (ci := 1) (v := .int (if 9999 < (o35 + 1) then 9999 else (o35 + 1))) (ty := .int) (C := RX1) (T := TX1) (N := 7) hx hb hts w0 tyX1 tyX1_ok nmX1 hown hK hP hD hS 0 rfl rfl 1 (by decide) w1 (fun _ h9 => h9) rfl (by decide +kernel) rfl rfl (Nat.le_of_ble_eq_true rfl) dX1_goOn_39 (fun H locs hP hD hS => ?_)
      have hP : va_P D vwCl [(la, .inr (1, [.int o34, .int (if 9999 < (o35 + 1) then 9999 else (o35 + 1)), .int o36, .int o37, .int o38, .ref lb, .ref lc])), (lb, .inl (cF, 6, .inr (.inr (.inl o32)))), (lc, .inl (cF, 6, .inr (.inr (.inl o33)))), (fa, .inr (0, [.int fst, .ref fb, .int fwy, .ref fc, .int fmk, .int fwt])), (fb, .inl (cI, 24, .inl fvl)), (fc, .inl (cI, 84, .inl fpt)), (ma, .inr (2, [.ref mla, .ref mua, .ref mn, .int o39])), (mn, .inl (cI, 3, .inl mnm))] H := hP
      have hD : va_D A [(la, .inr (1, [.int o34, .int (if 9999 < (o35 + 1) then 9999 else (o35 + 1)), .int o36, .int o37, .int o38, .ref lb, .ref lc])), (lb, .inl (cF, 6, .inr (.inr (.inl o32)))), (lc, .inl (cF, 6, .inr (.inr (.inl o33)))), (fa, .inr (0, [.int fst, .ref fb, .int fwy, .ref fc, .int fmk, .int fwt])), (fb, .inl (cI, 24, .inl fvl)), (fc, .inl (cI, 84, .inl fpt)), (ma, .inr (2, [.ref mla, .ref mua, .ref mn, .int o39])), (mn, .inl (cI, 3, .inl mnm))] := hD
      refine lv_aload_n hx hb dX1_goOn_42 rfl (lv_at hl 0 rfl) ?_
      obtain ⟨r41, hc42, hf⟩ := bd_inv hf
      refine xcV (As := []) (rest := []) (ws' := [(la, .inr (1, [.int o34, .int (if 9999 < (o35 + 1) then 9999 else (o35 + 1)), .int o36, .int o37, .int o38, .ref lb, .ref lc])), (lb, .inl (cF, 6, .inr (.inr (.inl o32)))), (lc, .inl (cF, 6, .inr (.inr (.inl o33)))), (fa, .inr (0, [.int fst, .ref fb, .int fwy, .ref fc, .int fmk, .int fwt])), (fb, .inl (cI, 24, .inl fvl)), (fc, .inl (cI, 84, .inl fpt)), (ma, .inr (2, [.ref mla, .ref mua, .ref mn, .int o39])), (mn, .inl (cI, 3, .inl mnm))]) ⟨hx, hb, hml, hown, hts⟩ (c_X1_isSteady l D B adK adV cC cF cI cZ cM cS la o34 (if 9999 < (o35 + 1) then 9999 else (o35 + 1)) o36 o37 o38 lb lc o32 o33  r41 hc42) (cwV 0 hts gX1_goOn_X1_isSteady rfl rfl rfl (by decide +kernel) ⟨Nat.le_of_ble_eq_true rfl, Nat.le_of_ble_eq_true rfl⟩) (va_recv hK hP (ci := 1) (q0 := 0) rfl rfl) hK hP hD hS hB hE [0, 1, 2] rfl rfl rfl rfl rfl hl.1 rfl (Nat.le_of_ble_eq_true rfl) dX1_goOn_43 ⟨Nat.le_of_ble_eq_true rfl, Nat.le_of_ble_eq_true rfl⟩ (fun H locs hP hD hS => ?_)
      refine W.eq (g2 := F0 m 46 ls [.int r41]) rfl ?_
      refine lv_if_ne (tgt := 53) hx hb dX1_goOn_46 (by decide) (fun c43 => ?_) (fun c43 => ?_)
      · have hf := if_n c43 hf
        have h1 := Option.some.inj hf
        subst h1
        rw [hQ]
        exact W.vret hx hb hr (fun t ht hW => qEnd hP hS ht) hS.2.2 dX1_goOn_53
      · have hf := if_p c43 hf
        refine lv_aload_n hx hb dX1_goOn_49 rfl (lv_at hl 0 rfl) ?_
        obtain ⟨⟨o44, o45, o46, o47⟩, hc48, hf⟩ := bd_inv hf
        refine xcV (As := []) (rest := []) (ws' := [(la, .inr (1, [.int o34, .int (if 9999 < (o35 + 1) then 9999 else (o35 + 1)), .int o45, .int o46, .int o47, .ref lb, .ref lc])), (lb, .inl (cF, 6, .inr (.inr (.inl o44)))), (lc, .inl (cF, 6, .inr (.inr (.inl o33)))), (fa, .inr (0, [.int fst, .ref fb, .int fwy, .ref fc, .int fmk, .int fwt])), (fb, .inl (cI, 24, .inl fvl)), (fc, .inl (cI, 84, .inl fpt)), (ma, .inr (2, [.ref mla, .ref mua, .ref mn, .int o39])), (mn, .inl (cI, 3, .inl mnm))]) ⟨hx, hb, hml, hown, hts⟩ (c_X1_blend l D B adK adV cC cF cI cZ cM cS la o34 (if 9999 < (o35 + 1) then 9999 else (o35 + 1)) o36 o37 o38 lb lc o32 o33  (o44, o45, o46, o47) hc48) (cwV 0 hts gX1_goOn_X1_blend rfl rfl rfl (by decide +kernel) ⟨Nat.le_of_ble_eq_true rfl, Nat.le_of_ble_eq_true rfl⟩) (va_recv hK hP (ci := 1) (q0 := 0) rfl rfl) hK hP hD hS hB hE [0, 1, 2] rfl rfl rfl rfl rfl hl.1 rfl (Nat.le_of_ble_eq_true rfl) dX1_goOn_50 ⟨Nat.le_of_ble_eq_true rfl, Nat.le_of_ble_eq_true rfl⟩ (fun H locs hP hD hS => ?_)
        refine W.eq (g2 := F0 m 53 ls []) rfl ?_
        have h1 := Option.some.inj hf
        subst h1
        rw [hQ]
        exact W.vret hx hb hr (fun t ht hW => qEnd hP hS ht) hS.2.2 dX1_goOn_53
set_option maxRecDepth 100000 in
set_option maxHeartbeats 4000000 in
theorem c_X1_sumOfShares (l : Launch) (D : va_G) (B : Nat) (adK adV : Nat → Nat) (cC cF cI cZ cM cS : ClassId) (la : Nat) (lst : Int32) (lla : Int32) (lbw : Int32) (lbf : Int32) (lbd : Int32) (lb : Nat) (lc : Nat) (lsh : Nat → UInt32) (lsb : Nat → UInt32) (cnt : Int32) (zz : UInt32) (hf : f_X1_sumOfShares lsh cnt = some zz) : Ct l yX1_sumOfShares wsX1_sumOfShares { frames := 0, cells := 0, slots := 0, locals := 0 } D B adK adV (tysX cC cF cI cZ cM cS) [.ref la, .int cnt] [(la, .inr (1, [.int lst, .int lla, .int lbw, .int lbf, .int lbd, .ref lb, .ref lc])), (lb, .inl (cF, 6, .inr (.inr (.inl lsh)))), (lc, .inl (cF, 6, .inr (.inr (.inl lsb))))] [(la, .inr (1, [.int lst, .int lla, .int lbw, .int lbf, .int lbd, .ref lb, .ref lc])), (lb, .inl (cF, 6, .inr (.inr (.inl lsh)))), (lc, .inl (cF, 6, .inr (.inr (.inl lsb))))] (some (.float zz)) := by
  refine Ct.ofW (cc := cX1_sumOfShares) (maxL := 4) (ret := (some .float)) (by decide) rfl (Nat.le_of_ble_eq_true rfl) ?_
  intro p e s m args below meth c hx hb hr hml hts hown hlocks hnm hK hE A Q hQ hB H locs ls hP hD hS hl
  have hl : lv_has ls 4 [(0, .ref la), (1, .int cnt)] := hl
  have w0 : ∀ w ∈ u_ws RX1 TX1 7, w ∈ wsX1_sumOfShares := by decide +kernel
  have w1 := hts (.fieldLink RX1 15 "MotionStates$Layer" "shares" "[F") (by decide +kernel)
  have L4 : ∀ (n : Nat) (x3_4 : Int32) (x2_4 : UInt32) (oo : Int32 × UInt32), f_X1_sumOfShares_L4 cnt lsh n x3_4 x2_4 = some oo → ∀ (H : Heap) (locs : List Loc) (ls : Array Slot), va_P D vwCl [(la, .inr (1, [.int lst, .int lla, .int lbw, .int lbf, .int lbd, .ref lb, .ref lc])), (lb, .inl (cF, 6, .inr (.inr (.inl lsh)))), (lc, .inl (cF, 6, .inr (.inr (.inl lsb))))] H → va_D A [(la, .inr (1, [.int lst, .int lla, .int lbw, .int lbf, .int lbd, .ref lb, .ref lc])), (lb, .inl (cF, 6, .inr (.inr (.inl lsh)))), (lc, .inl (cF, 6, .inr (.inr (.inl lsb))))] → va_S A s.heap H locs → lv_has ls 4 [(3, .int x3_4), (2, .float x2_4), (0, .ref la), (1, .int cnt)] → (∀ (H : Heap) (locs : List Loc) (ls : Array Slot), va_P D vwCl [(la, .inr (1, [.int lst, .int lla, .int lbw, .int lbf, .int lbd, .ref lb, .ref lc])), (lb, .inl (cF, 6, .inr (.inr (.inl lsh)))), (lc, .inl (cF, 6, .inr (.inr (.inl lsb))))] H → va_D A [(la, .inr (1, [.int lst, .int lla, .int lbw, .int lbf, .int lbd, .ref lb, .ref lc])), (lb, .inl (cF, 6, .inr (.inr (.inl lsh)))), (lc, .inl (cF, 6, .inr (.inr (.inl lsb))))] → va_S A s.heap H locs → lv_has ls 4 [(3, .int oo.1), (2, .float oo.2), (0, .ref la), (1, .int cnt)] → W p l e { frames := 0, cells := 0, slots := 0, locals := 0 } s m args below meth c H locs 0 0 Q (F0 m 24 ls [])) → W p l e { frames := 0, cells := 0, slots := 0, locals := 0 } s m args below meth c H locs 0 0 Q (F0 m 4 ls []) := by
    intro n
    induction n with
    | zero => intro x3_4 x2_4 oo hf; exact absurd hf (by simp [f_X1_sumOfShares_L4])
    | succ n ih =>
      intro x3_4 x2_4 oo hf H locs ls hP hD hS hl kk
      rw [f_X1_sumOfShares_L4] at hf
      refine lv_iload_n hx hb dX1_sumOfShares_4 rfl (lv_at hl 0 rfl) ?_
      refine lv_iload_n hx hb dX1_sumOfShares_5 rfl (lv_at hl 3 rfl) ?_
      refine lv_icmp_ge (tgt := 24) hx hb dX1_sumOfShares_6 (by decide) (fun c1 => ?_) (fun c1 => ?_)
      · have hf := if_p c1 hf
        have h1 := Option.some.inj hf
        subst h1
        exact kk H locs ls hP hD hS (lv_sub hl [0, 1, 2, 3] rfl)
      · have hf := if_n c1 hf
        refine lv_fload_n hx hb dX1_sumOfShares_9 rfl (lv_at hl 1 rfl) ?_
        refine lv_aload_n hx hb dX1_sumOfShares_10 rfl (lv_at hl 2 rfl) ?_
        refine va_get (D := D) (ci := 1) (v := .ref lb) (C := RX1) (T := TX1) (N := 7) hx hb hts w0 hown hK hP 0 rfl rfl 5 (by decide) w1 (fun _ h9 => h9) rfl dX1_sumOfShares_11 ?_
        refine lv_iload_n hx hb dX1_sumOfShares_14 rfl (lv_at hl 0 rfl) ?_
        obtain ⟨g2, hf⟩ := gd_inv hf
        refine va_fald hx hb hK hP 1 1 rfl rfl g2 dX1_sumOfShares_15 ?_
        obtain ⟨g3, hf⟩ := gd_inv hf
        refine lv_fadd hx hb dX1_sumOfShares_16 g3 ?_
        refine lv_fstore_n (lv' := [(2, .float (FP.fadd x2_4 (lsh x3_4.toNatClampNeg))), (3, .int x3_4), (0, .ref la), (1, .int cnt)]) hx hb dX1_sumOfShares_17 rfl hl (by decide) rfl (fun ls hl => ?_)
        refine lv_iinc (v := x3_4 + 1) (lv' := [(3, .int (x3_4 + 1)), (2, .float (FP.fadd x2_4 (lsh x3_4.toNatClampNeg))), (0, .ref la), (1, .int cnt)]) hx hb dX1_sumOfShares_18 hl (k := 1) rfl rfl (by decide) rfl (fun ls hl => ?_)
        refine lv_goto (tgt := 4) hx hb dX1_sumOfShares_21 (by decide) ?_
        exact ih (x3_4 + 1) (FP.fadd x2_4 (lsh x3_4.toNatClampNeg)) oo hf H locs ls hP hD hS (lv_sub hl [0, 1, 2, 3] rfl) kk
  unfold f_X1_sumOfShares at hf
  refine lv_fconst0 hx hb dX1_sumOfShares_0 ?_
  refine lv_fstore_n (lv' := [(2, .float FP.fconst0), (0, .ref la), (1, .int cnt)]) hx hb dX1_sumOfShares_1 rfl hl (by decide) rfl (fun ls hl => ?_)
  refine lv_iconst (v := 0) hx hb dX1_sumOfShares_2 (by decide) ?_
  refine lv_istore_n (lv' := [(3, .int 0), (2, .float FP.fconst0), (0, .ref la), (1, .int cnt)]) hx hb dX1_sumOfShares_3 rfl hl (by decide) rfl (fun ls hl => ?_)
  obtain ⟨⟨q4, q5⟩, hq6, hf⟩ := bd_inv hf
  refine L4 1000 0 FP.fconst0 (q4, q5) hq6 H locs ls hP hD hS (lv_sub hl [0, 1, 2, 3] rfl) (fun H locs ls hP hD hS hl => ?_)
  have hP : va_P D vwCl [(la, .inr (1, [.int lst, .int lla, .int lbw, .int lbf, .int lbd, .ref lb, .ref lc])), (lb, .inl (cF, 6, .inr (.inr (.inl lsh)))), (lc, .inl (cF, 6, .inr (.inr (.inl lsb))))] H := hP
  have hD : va_D A [(la, .inr (1, [.int lst, .int lla, .int lbw, .int lbf, .int lbd, .ref lb, .ref lc])), (lb, .inl (cF, 6, .inr (.inr (.inl lsh)))), (lc, .inl (cF, 6, .inr (.inr (.inl lsb))))] := hD
  have hl : lv_has ls 4 [(3, .int q4), (2, .float q5), (0, .ref la), (1, .int cnt)] := hl
  refine lv_fload_n hx hb dX1_sumOfShares_24 rfl (lv_at hl 1 rfl) ?_
  have h1 := Option.some.inj hf
  subst h1
  rw [hQ]
  exact W.fret (v := q5) hx hb hr (fun t ht hW => qEnd hP hS ht) hS.2.2 dX1_sumOfShares_25
set_option maxRecDepth 100000 in
set_option maxHeartbeats 4000000 in
theorem c_X1_limbOf (l : Launch) (D : va_G) (B : Nat) (adK adV : Nat → Nat) (cC cF cI cZ cM cS : ClassId) (la : Nat) (lst : Int32) (lla : Int32) (lbw : Int32) (lbf : Int32) (lbd : Int32) (lb : Nat) (lc : Nat) (lsh : Nat → UInt32) (lsb : Nat → UInt32) (fa : Nat) (fst : Int32) (fb : Nat) (fwy : Int32) (fc : Nat) (fmk : Int32) (fwt : Int32) (fvl : Nat → Int32) (fpt : Nat → Int32) (i : Int32) (zz : UInt32) (hf : f_X1_limbOf lsh fst fvl i = some zz) : Ct l yX1_limbOf wsX1_limbOf { frames := 0, cells := 0, slots := 0, locals := 0 } D B adK adV (tysX cC cF cI cZ cM cS) [.ref la, .ref fa, .int i] [(la, .inr (1, [.int lst, .int lla, .int lbw, .int lbf, .int lbd, .ref lb, .ref lc])), (lb, .inl (cF, 6, .inr (.inr (.inl lsh)))), (lc, .inl (cF, 6, .inr (.inr (.inl lsb)))), (fa, .inr (0, [.int fst, .ref fb, .int fwy, .ref fc, .int fmk, .int fwt])), (fb, .inl (cI, 24, .inl fvl)), (fc, .inl (cI, 84, .inl fpt))] [(la, .inr (1, [.int lst, .int lla, .int lbw, .int lbf, .int lbd, .ref lb, .ref lc])), (lb, .inl (cF, 6, .inr (.inr (.inl lsh)))), (lc, .inl (cF, 6, .inr (.inr (.inl lsb)))), (fa, .inr (0, [.int fst, .ref fb, .int fwy, .ref fc, .int fmk, .int fwt])), (fb, .inl (cI, 24, .inl fvl)), (fc, .inl (cI, 84, .inl fpt))] (some (.float zz)) := by
  refine Ct.ofW (cc := cX1_limbOf) (maxL := 6) (ret := (some .float)) (by decide) rfl (Nat.le_of_ble_eq_true rfl) ?_
  intro p e s m args below meth c hx hb hr hml hts hown hlocks hnm hK hE A Q hQ hB H locs ls hP hD hS hl
  have hl : lv_has ls 6 [(0, .ref la), (1, .ref fa), (2, .int i)] := hl
  have w0 : ∀ w ∈ u_ws RX0 TX0 6, w ∈ wsX1_limbOf := by decide +kernel
  have w1 : (Cond.fieldLinkNest "MotionStates$Layer" 103 "MotionStates$Figure" "states" "I" "MotionStates").before args s = true := va_Nw.use rfl (hE.1 ("MotionStates$Layer", 103, "MotionStates$Figure", "states", "I", "MotionStates") (by decide +kernel))
  have w2 : (Cond.fieldLinkNest "MotionStates$Layer" 106 "MotionStates$Figure" "values" "[I" "MotionStates").before args s = true := va_Nw.use rfl (hE.1 ("MotionStates$Layer", 106, "MotionStates$Figure", "values", "[I", "MotionStates") (by decide +kernel))
  have w3 := hts (.constantFloat RX1 109 (1082130432)) (by decide +kernel)
  have w4 : ∀ w ∈ u_ws RX1 TX1 7, w ∈ wsX1_limbOf := by decide +kernel
  have w5 := hts (.fieldLink RX1 15 "MotionStates$Layer" "shares" "[F") (by decide +kernel)
  have L5 : ∀ (n : Nat) (x4_5 : Int32) (x3_5 : UInt32) (oo : Int32 × UInt32), f_X1_limbOf_L5 fst i fvl lsh n x4_5 x3_5 = some oo → ∀ (H : Heap) (locs : List Loc) (ls : Array Slot), va_P D vwCl [(la, .inr (1, [.int lst, .int lla, .int lbw, .int lbf, .int lbd, .ref lb, .ref lc])), (lb, .inl (cF, 6, .inr (.inr (.inl lsh)))), (lc, .inl (cF, 6, .inr (.inr (.inl lsb)))), (fa, .inr (0, [.int fst, .ref fb, .int fwy, .ref fc, .int fmk, .int fwt])), (fb, .inl (cI, 24, .inl fvl)), (fc, .inl (cI, 84, .inl fpt))] H → va_D A [(la, .inr (1, [.int lst, .int lla, .int lbw, .int lbf, .int lbd, .ref lb, .ref lc])), (lb, .inl (cF, 6, .inr (.inr (.inl lsh)))), (lc, .inl (cF, 6, .inr (.inr (.inl lsb)))), (fa, .inr (0, [.int fst, .ref fb, .int fwy, .ref fc, .int fmk, .int fwt])), (fb, .inl (cI, 24, .inl fvl)), (fc, .inl (cI, 84, .inl fpt))] → va_S A s.heap H locs → lv_has ls 6 [(4, .int x4_5), (3, .float x3_5), (0, .ref la), (1, .ref fa), (2, .int i)] → (∀ (H : Heap) (locs : List Loc) (ls : Array Slot), va_P D vwCl [(la, .inr (1, [.int lst, .int lla, .int lbw, .int lbf, .int lbd, .ref lb, .ref lc])), (lb, .inl (cF, 6, .inr (.inr (.inl lsh)))), (lc, .inl (cF, 6, .inr (.inr (.inl lsb)))), (fa, .inr (0, [.int fst, .ref fb, .int fwy, .ref fc, .int fmk, .int fwt])), (fb, .inl (cI, 24, .inl fvl)), (fc, .inl (cI, 84, .inl fpt))] H → va_D A [(la, .inr (1, [.int lst, .int lla, .int lbw, .int lbf, .int lbd, .ref lb, .ref lc])), (lb, .inl (cF, 6, .inr (.inr (.inl lsh)))), (lc, .inl (cF, 6, .inr (.inr (.inl lsb)))), (fa, .inr (0, [.int fst, .ref fb, .int fwy, .ref fc, .int fmk, .int fwt])), (fb, .inl (cI, 24, .inl fvl)), (fc, .inl (cI, 84, .inl fpt))] → va_S A s.heap H locs → lv_has ls 6 [(4, .int oo.1), (3, .float oo.2), (0, .ref la), (1, .ref fa), (2, .int i)] → W p l e { frames := 0, cells := 0, slots := 0, locals := 0 } s m args below meth c H locs 0 0 Q (F0 m 50 ls [])) → W p l e { frames := 0, cells := 0, slots := 0, locals := 0 } s m args below meth c H locs 0 0 Q (F0 m 5 ls []) := by
    intro n
    induction n with
    | zero => intro x4_5 x3_5 oo hf; exact absurd hf (by simp [f_X1_limbOf_L5])
    | succ n ih =>
      intro x4_5 x3_5 oo hf H locs ls hP hD hS hl kk
      rw [f_X1_limbOf_L5] at hf
      refine lv_iload hx hb dX1_limbOf_5 (lv_at hl 0 rfl) ?_
      refine lv_aload_n hx hb dX1_limbOf_7 rfl (lv_at hl 3 rfl) ?_
      refine va_getN (D := D) (ci := 0) (v := .int fst) (C := RX0) (T := TX0) (N := 6) hx hb hts w0 hown hK hP 3 rfl rfl 0 (by decide) w1 (fun _ h9 => h9) rfl dX1_limbOf_8 ?_
      refine lv_icmp_ge (tgt := 50) hx hb dX1_limbOf_11 (by decide) (fun c1 => ?_) (fun c1 => ?_)
      · have hf := if_p c1 hf
        have h1 := Option.some.inj hf
        subst h1
        exact kk H locs ls hP hD hS (lv_sub hl [0, 1, 2, 3, 4] rfl)
      · have hf := if_n c1 hf
        refine lv_aload_n hx hb dX1_limbOf_14 rfl (lv_at hl 3 rfl) ?_
        refine va_getN (D := D) (ci := 0) (v := .ref fb) (C := RX0) (T := TX0) (N := 6) hx hb hts w0 hown hK hP 3 rfl rfl 1 (by decide) w2 (fun _ h9 => h9) rfl dX1_limbOf_15 ?_
        refine lv_iload hx hb dX1_limbOf_18 (lv_at hl 0 rfl) ?_
        refine lv_iconst (v := 4) hx hb dX1_limbOf_20 (by decide) ?_
        refine lv_imul hx hb dX1_limbOf_21 ?_
        refine lv_iload_n hx hb dX1_limbOf_22 rfl (lv_at hl 4 rfl) ?_
        refine lv_iadd hx hb dX1_limbOf_23 ?_
        obtain ⟨g2, hf⟩ := gd_inv hf
        refine va_iald hx hb hK hP 4 2 rfl rfl g2 dX1_limbOf_24 ?_
        refine lv_i2f hx hb dX1_limbOf_25 ?_
        refine lv_ldcf hx hb hown w3 dX1_limbOf_26 ?_
        obtain ⟨g3, hf⟩ := gd_inv hf
        refine lv_fdiv hx hb dX1_limbOf_28 g3 ?_
        refine lv_fstore (lv' := [(5, .float (FP.fdiv (FP.i2f (fvl (((x4_5 * 4) + i).toNatClampNeg))) 1082130432)), (4, .int x4_5), (3, .float x3_5), (0, .ref la), (1, .ref fa), (2, .int i)]) hx hb dX1_limbOf_29 hl (by decide) rfl (fun ls hl => ?_)
        refine lv_fload_n hx hb dX1_limbOf_31 rfl (lv_at hl 2 rfl) ?_
        refine lv_fload hx hb dX1_limbOf_32 (lv_at hl 0 rfl) ?_
        refine lv_aload_n hx hb dX1_limbOf_34 rfl (lv_at hl 3 rfl) ?_
        refine va_get (D := D) (ci := 1) (v := .ref lb) (C := RX1) (T := TX1) (N := 7) hx hb hts w4 hown hK hP 0 rfl rfl 5 (by decide) w5 (fun _ h9 => h9) rfl dX1_limbOf_35 ?_
        refine lv_iload hx hb dX1_limbOf_38 (lv_at hl 1 rfl) ?_
        obtain ⟨g4, hf⟩ := gd_inv hf
        refine va_fald hx hb hK hP 1 1 rfl rfl g4 dX1_limbOf_40 ?_
        obtain ⟨g5, hf⟩ := gd_inv hf
        refine lv_fmul hx hb dX1_limbOf_41 g5 ?_
        obtain ⟨g6, hf⟩ := gd_inv hf
        refine lv_fadd hx hb dX1_limbOf_42 g6 ?_
        refine lv_fstore_n (lv' := [(3, .float (FP.fadd x3_5 (FP.fmul (FP.fdiv (FP.i2f (fvl (((x4_5 * 4) + i).toNatClampNeg))) 1082130432) (lsh x4_5.toNatClampNeg)))), (5, .float (FP.fdiv (FP.i2f (fvl (((x4_5 * 4) + i).toNatClampNeg))) 1082130432)), (4, .int x4_5), (0, .ref la), (1, .ref fa), (2, .int i)]) hx hb dX1_limbOf_43 rfl hl (by decide) rfl (fun ls hl => ?_)
        refine lv_iinc (v := x4_5 + 1) (lv' := [(4, .int (x4_5 + 1)), (3, .float (FP.fadd x3_5 (FP.fmul (FP.fdiv (FP.i2f (fvl (((x4_5 * 4) + i).toNatClampNeg))) 1082130432) (lsh x4_5.toNatClampNeg)))), (5, .float (FP.fdiv (FP.i2f (fvl (((x4_5 * 4) + i).toNatClampNeg))) 1082130432)), (0, .ref la), (1, .ref fa), (2, .int i)]) hx hb dX1_limbOf_44 hl (k := 2) rfl rfl (by decide) rfl (fun ls hl => ?_)
        refine lv_goto (tgt := 5) hx hb dX1_limbOf_47 (by decide) ?_
        exact ih (x4_5 + 1) (FP.fadd x3_5 (FP.fmul (FP.fdiv (FP.i2f (fvl (((x4_5 * 4) + i).toNatClampNeg))) 1082130432) (lsh x4_5.toNatClampNeg))) oo hf H locs ls hP hD hS (lv_sub hl [0, 1, 3, 4, 5] rfl) kk
  unfold f_X1_limbOf at hf
  refine lv_fconst0 hx hb dX1_limbOf_0 ?_
  refine lv_fstore_n (lv' := [(3, .float FP.fconst0), (0, .ref la), (1, .ref fa), (2, .int i)]) hx hb dX1_limbOf_1 rfl hl (by decide) rfl (fun ls hl => ?_)
  refine lv_iconst (v := 0) hx hb dX1_limbOf_2 (by decide) ?_
  refine lv_istore (lv' := [(4, .int 0), (3, .float FP.fconst0), (0, .ref la), (1, .ref fa), (2, .int i)]) hx hb dX1_limbOf_3 hl (by decide) rfl (fun ls hl => ?_)
  obtain ⟨⟨q7, q8⟩, hq9, hf⟩ := bd_inv hf
  refine L5 1000 0 FP.fconst0 (q7, q8) hq9 H locs ls hP hD hS (lv_sub hl [0, 1, 2, 3, 4] rfl) (fun H locs ls hP hD hS hl => ?_)
  have hP : va_P D vwCl [(la, .inr (1, [.int lst, .int lla, .int lbw, .int lbf, .int lbd, .ref lb, .ref lc])), (lb, .inl (cF, 6, .inr (.inr (.inl lsh)))), (lc, .inl (cF, 6, .inr (.inr (.inl lsb)))), (fa, .inr (0, [.int fst, .ref fb, .int fwy, .ref fc, .int fmk, .int fwt])), (fb, .inl (cI, 24, .inl fvl)), (fc, .inl (cI, 84, .inl fpt))] H := hP
  have hD : va_D A [(la, .inr (1, [.int lst, .int lla, .int lbw, .int lbf, .int lbd, .ref lb, .ref lc])), (lb, .inl (cF, 6, .inr (.inr (.inl lsh)))), (lc, .inl (cF, 6, .inr (.inr (.inl lsb)))), (fa, .inr (0, [.int fst, .ref fb, .int fwy, .ref fc, .int fmk, .int fwt])), (fb, .inl (cI, 24, .inl fvl)), (fc, .inl (cI, 84, .inl fpt))] := hD
  have hl : lv_has ls 6 [(4, .int q7), (3, .float q8), (0, .ref la), (1, .ref fa), (2, .int i)] := hl
  refine lv_fload_n hx hb dX1_limbOf_50 rfl (lv_at hl 1 rfl) ?_
  have h1 := Option.some.inj hf
  subst h1
  rw [hQ]
  exact W.fret (v := q8) hx hb hr (fun t ht hW => qEnd hP hS ht) hS.2.2 dX1_limbOf_51
