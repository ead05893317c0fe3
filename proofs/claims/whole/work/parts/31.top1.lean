set_option maxRecDepth 100000 in
set_option maxHeartbeats 4000000 in
theorem c_X5_isLimb (l : Launch) (D : va_G) (B : Nat) (adK adV : Nat → Nat) (cC cF cI cZ cM cS : ClassId) (i : Int32) (zz : Int32) (hf : f_X5_isLimb i = some zz) : Ct l yX5_isLimb wsX5_isLimb { frames := 0, cells := 0, slots := 0, locals := 0 } D B adK adV (tysX cC cF cI cZ cM cS) [.int i] [] [] (some (.int zz)) := by
  refine Ct.ofW (cc := cX5_isLimb) (maxL := 1) (ret := (some .boolean)) (by decide) rfl (Nat.le_of_ble_eq_true rfl) ?_
  intro p e s m args below meth c hx hb hr hml hts hown hlocks hnm hK hE A Q hQ hB H locs ls hP hD hS hl
  have hl : lv_has ls 1 [(0, .int i)] := hl
  unfold f_X5_isLimb at hf
  refine lv_iload_n hx hb dX5_isLimb_0 rfl (lv_at hl 0 rfl) ?_
  refine lv_if_lt (tgt := 13) hx hb dX5_isLimb_1 (by decide) (fun c1 => ?_) (fun c1 => ?_)
  · have hf := if_p c1 hf
    refine lv_iconst (v := 0) hx hb dX5_isLimb_13 (by decide) ?_
    have h1 := Option.some.inj hf
    subst h1
    rw [hQ]
    exact W.zret (v := 0) (ty := .boolean) hx hb hr rfl (fun t ht hW => qEnd hP hS ht) hS.2.2 dX5_isLimb_14
  · have hf := if_n c1 hf
    refine lv_iload_n hx hb dX5_isLimb_4 rfl (lv_at hl 0 rfl) ?_
    refine lv_iconst (v := 4) hx hb dX5_isLimb_5 (by decide) ?_
    refine lv_icmp_ge (tgt := 13) hx hb dX5_isLimb_6 (by decide) (fun c2 => ?_) (fun c2 => ?_)
    · have hf := if_p c2 hf
      refine lv_iconst (v := 0) hx hb dX5_isLimb_13 (by decide) ?_
      have h1 := Option.some.inj hf
      subst h1
      rw [hQ]
      exact W.zret (v := 0) (ty := .boolean) hx hb hr rfl (fun t ht hW => qEnd hP hS ht) hS.2.2 dX5_isLimb_14
    · have hf := if_n c2 hf
      refine lv_iconst (v := 1) hx hb dX5_isLimb_9 (by decide) ?_
      refine lv_goto (tgt := 14) hx hb dX5_isLimb_10 (by decide) ?_
      have h1 := Option.some.inj hf
      subst h1
      rw [hQ]
      exact W.zret (v := 1) (ty := .boolean) hx hb hr rfl (fun t ht hW => qEnd hP hS ht) hS.2.2 dX5_isLimb_14
set_option maxRecDepth 100000 in
set_option maxHeartbeats 4000000 in
theorem c_X5_isLayer (l : Launch) (D : va_G) (B : Nat) (adK adV : Nat → Nat) (cC cF cI cZ cM cS : ClassId) (i : Int32) (zz : Int32) (hf : f_X5_isLayer i = some zz) : Ct l yX5_isLayer wsX5_isLayer { frames := 0, cells := 0, slots := 0, locals := 0 } D B adK adV (tysX cC cF cI cZ cM cS) [.int i] [] [] (some (.int zz)) := by
  refine Ct.ofW (cc := cX5_isLayer) (maxL := 1) (ret := (some .boolean)) (by decide) rfl (Nat.le_of_ble_eq_true rfl) ?_
  intro p e s m args below meth c hx hb hr hml hts hown hlocks hnm hK hE A Q hQ hB H locs ls hP hD hS hl
  have hl : lv_has ls 1 [(0, .int i)] := hl
  unfold f_X5_isLayer at hf
  refine lv_iload_n hx hb dX5_isLayer_0 rfl (lv_at hl 0 rfl) ?_
  refine lv_if_lt (tgt := 13) hx hb dX5_isLayer_1 (by decide) (fun c1 => ?_) (fun c1 => ?_)
  · have hf := if_p c1 hf
    refine lv_iconst (v := 0) hx hb dX5_isLayer_13 (by decide) ?_
    have h1 := Option.some.inj hf
    subst h1
    rw [hQ]
    exact W.zret (v := 0) (ty := .boolean) hx hb hr rfl (fun t ht hW => qEnd hP hS ht) hS.2.2 dX5_isLayer_14
  · have hf := if_n c1 hf
    refine lv_iload_n hx hb dX5_isLayer_4 rfl (lv_at hl 0 rfl) ?_
    refine lv_iconst (v := 2) hx hb dX5_isLayer_5 (by decide) ?_
    refine lv_icmp_ge (tgt := 13) hx hb dX5_isLayer_6 (by decide) (fun c2 => ?_) (fun c2 => ?_)
    · have hf := if_p c2 hf
      refine lv_iconst (v := 0) hx hb dX5_isLayer_13 (by decide) ?_
      have h1 := Option.some.inj hf
      subst h1
      rw [hQ]
      exact W.zret (v := 0) (ty := .boolean) hx hb hr rfl (fun t ht hW => qEnd hP hS ht) hS.2.2 dX5_isLayer_14
    · have hf := if_n c2 hf
      refine lv_iconst (v := 1) hx hb dX5_isLayer_9 (by decide) ?_
      refine lv_goto (tgt := 14) hx hb dX5_isLayer_10 (by decide) ?_
      have h1 := Option.some.inj hf
      subst h1
      rw [hQ]
      exact W.zret (v := 1) (ty := .boolean) hx hb hr rfl (fun t ht hW => qEnd hP hS ht) hS.2.2 dX5_isLayer_14
set_option maxRecDepth 100000 in
set_option maxHeartbeats 4000000 in
theorem c_X5_isTrigger (l : Launch) (D : va_G) (B : Nat) (adK adV : Nat → Nat) (cC cF cI cZ cM cS : ClassId) (i : Int32) (zz : Int32) (hf : f_X5_isTrigger i = some zz) : Ct l yX5_isTrigger wsX5_isTrigger { frames := 0, cells := 0, slots := 0, locals := 0 } D B adK adV (tysX cC cF cI cZ cM cS) [.int i] [] [] (some (.int zz)) := by
  refine Ct.ofW (cc := cX5_isTrigger) (maxL := 1) (ret := (some .boolean)) (by decide) rfl (Nat.le_of_ble_eq_true rfl) ?_
  intro p e s m args below meth c hx hb hr hml hts hown hlocks hnm hK hE A Q hQ hB H locs ls hP hD hS hl
  have hl : lv_has ls 1 [(0, .int i)] := hl
  unfold f_X5_isTrigger at hf
  refine lv_iload_n hx hb dX5_isTrigger_0 rfl (lv_at hl 0 rfl) ?_
  refine lv_if_lt (tgt := 13) hx hb dX5_isTrigger_1 (by decide) (fun c1 => ?_) (fun c1 => ?_)
  · have hf := if_p c1 hf
    refine lv_iconst (v := 0) hx hb dX5_isTrigger_13 (by decide) ?_
    have h1 := Option.some.inj hf
    subst h1
    rw [hQ]
    exact W.zret (v := 0) (ty := .boolean) hx hb hr rfl (fun t ht hW => qEnd hP hS ht) hS.2.2 dX5_isTrigger_14
  · have hf := if_n c1 hf
    refine lv_iload_n hx hb dX5_isTrigger_4 rfl (lv_at hl 0 rfl) ?_
    refine lv_iconst (v := 3) hx hb dX5_isTrigger_5 (by decide) ?_
    refine lv_icmp_ge (tgt := 13) hx hb dX5_isTrigger_6 (by decide) (fun c2 => ?_) (fun c2 => ?_)
    · have hf := if_p c2 hf
      refine lv_iconst (v := 0) hx hb dX5_isTrigger_13 (by decide) ?_
      have h1 := Option.some.inj hf
      subst h1
      rw [hQ]
      exact W.zret (v := 0) (ty := .boolean) hx hb hr rfl (fun t ht hW => qEnd hP hS ht) hS.2.2 dX5_isTrigger_14
    · have hf := if_n c2 hf
      refine lv_iconst (v := 1) hx hb dX5_isTrigger_9 (by decide) ?_
      refine lv_goto (tgt := 14) hx hb dX5_isTrigger_10 (by decide) ?_
      have h1 := Option.some.inj hf
      subst h1
      rw [hQ]
      exact W.zret (v := 1) (ty := .boolean) hx hb hr rfl (fun t ht hW => qEnd hP hS ht) hS.2.2 dX5_isTrigger_14
set_option maxRecDepth 100000 in
set_option maxHeartbeats 4000000 in
theorem c_X5_isKeeping (l : Launch) (D : va_G) (B : Nat) (adK adV : Nat → Nat) (cC cF cI cZ cM cS : ClassId) (i : Int32) (zz : Int32) (hf : f_X5_isKeeping i = some zz) : Ct l yX5_isKeeping wsX5_isKeeping { frames := 0, cells := 0, slots := 0, locals := 0 } D B adK adV (tysX cC cF cI cZ cM cS) [.int i] [] [] (some (.int zz)) := by
  refine Ct.ofW (cc := cX5_isKeeping) (maxL := 1) (ret := (some .boolean)) (by decide) rfl (Nat.le_of_ble_eq_true rfl) ?_
  intro p e s m args below meth c hx hb hr hml hts hown hlocks hnm hK hE A Q hQ hB H locs ls hP hD hS hl
  have hl : lv_has ls 1 [(0, .int i)] := hl
  unfold f_X5_isKeeping at hf
  refine lv_iload_n hx hb dX5_isKeeping_0 rfl (lv_at hl 0 rfl) ?_
  refine lv_if_lt (tgt := 13) hx hb dX5_isKeeping_1 (by decide) (fun c1 => ?_) (fun c1 => ?_)
  · have hf := if_p c1 hf
    refine lv_iconst (v := 0) hx hb dX5_isKeeping_13 (by decide) ?_
    have h1 := Option.some.inj hf
    subst h1
    rw [hQ]
    exact W.zret (v := 0) (ty := .boolean) hx hb hr rfl (fun t ht hW => qEnd hP hS ht) hS.2.2 dX5_isKeeping_14
  · have hf := if_n c1 hf
    refine lv_iload_n hx hb dX5_isKeeping_4 rfl (lv_at hl 0 rfl) ?_
    refine lv_iconst (v := 2) hx hb dX5_isKeeping_5 (by decide) ?_
    refine lv_icmp_ge (tgt := 13) hx hb dX5_isKeeping_6 (by decide) (fun c2 => ?_) (fun c2 => ?_)
    · have hf := if_p c2 hf
      refine lv_iconst (v := 0) hx hb dX5_isKeeping_13 (by decide) ?_
      have h1 := Option.some.inj hf
      subst h1
      rw [hQ]
      exact W.zret (v := 0) (ty := .boolean) hx hb hr rfl (fun t ht hW => qEnd hP hS ht) hS.2.2 dX5_isKeeping_14
    · have hf := if_n c2 hf
      refine lv_iconst (v := 1) hx hb dX5_isKeeping_9 (by decide) ?_
      refine lv_goto (tgt := 14) hx hb dX5_isKeeping_10 (by decide) ?_
      have h1 := Option.some.inj hf
      subst h1
      rw [hQ]
      exact W.zret (v := 1) (ty := .boolean) hx hb hr rfl (fun t ht hW => qEnd hP hS ht) hS.2.2 dX5_isKeeping_14
set_option maxRecDepth 100000 in
set_option maxHeartbeats 4000000 in
theorem c_X5_isShelf (l : Launch) (D : va_G) (B : Nat) (adK adV : Nat → Nat) (cC cF cI cZ cM cS : ClassId) (i : Int32) (zz : Int32) (hf : f_X5_isShelf i = some zz) : Ct l yX5_isShelf wsX5_isShelf { frames := 0, cells := 0, slots := 0, locals := 0 } D B adK adV (tysX cC cF cI cZ cM cS) [.int i] [] [] (some (.int zz)) := by
  refine Ct.ofW (cc := cX5_isShelf) (maxL := 1) (ret := (some .boolean)) (by decide) rfl (Nat.le_of_ble_eq_true rfl) ?_
  intro p e s m args below meth c hx hb hr hml hts hown hlocks hnm hK hE A Q hQ hB H locs ls hP hD hS hl
  have hl : lv_has ls 1 [(0, .int i)] := hl
  unfold f_X5_isShelf at hf
  refine lv_iload_n hx hb dX5_isShelf_0 rfl (lv_at hl 0 rfl) ?_
  refine lv_if_lt (tgt := 13) hx hb dX5_isShelf_1 (by decide) (fun c1 => ?_) (fun c1 => ?_)
  · have hf := if_p c1 hf
    refine lv_iconst (v := 0) hx hb dX5_isShelf_13 (by decide) ?_
    have h1 := Option.some.inj hf
    subst h1
    rw [hQ]
    exact W.zret (v := 0) (ty := .boolean) hx hb hr rfl (fun t ht hW => qEnd hP hS ht) hS.2.2 dX5_isShelf_14
  · have hf := if_n c1 hf
    refine lv_iload_n hx hb dX5_isShelf_4 rfl (lv_at hl 0 rfl) ?_
    refine lv_iconst (v := 3) hx hb dX5_isShelf_5 (by decide) ?_
    refine lv_icmp_ge (tgt := 13) hx hb dX5_isShelf_6 (by decide) (fun c2 => ?_) (fun c2 => ?_)
    · have hf := if_p c2 hf
      refine lv_iconst (v := 0) hx hb dX5_isShelf_13 (by decide) ?_
      have h1 := Option.some.inj hf
      subst h1
      rw [hQ]
      exact W.zret (v := 0) (ty := .boolean) hx hb hr rfl (fun t ht hW => qEnd hP hS ht) hS.2.2 dX5_isShelf_14
    · have hf := if_n c2 hf
      refine lv_iconst (v := 1) hx hb dX5_isShelf_9 (by decide) ?_
      refine lv_goto (tgt := 14) hx hb dX5_isShelf_10 (by decide) ?_
      have h1 := Option.some.inj hf
      subst h1
      rw [hQ]
      exact W.zret (v := 1) (ty := .boolean) hx hb hr rfl (fun t ht hW => qEnd hP hS ht) hS.2.2 dX5_isShelf_14
set_option maxRecDepth 100000 in
set_option maxHeartbeats 4000000 in
theorem c_X5_isState (l : Launch) (D : va_G) (B : Nat) (adK adV : Nat → Nat) (cC cF cI cZ cM cS : ClassId) (xa : Nat) (ta : Nat) (fa : Nat) (da : Nat) (na : Nat) (ga : Nat) (xp : Nat) (xs : Nat) (xi : Nat) (xh : Nat) (np : Int32) (un : Int32) (fst : Int32) (fb : Nat) (fwy : Int32) (fc : Nat) (fmk : Int32) (fwt : Int32) (fvl : Nat → Int32) (fpt : Nat → Int32) (i : Int32) (zz : Int32) (hf : f_X5_isState fst i = some zz) : Ct l yX5_isState wsX5_isState { frames := 0, cells := 0, slots := 0, locals := 0 } D B adK adV (tysX cC cF cI cZ cM cS) [.ref xa, .int i] [(xa, .inr (5, [.ref ta, .ref fa, .ref da, .ref na, .ref ga, .ref xp, .ref xs, .ref xi, .ref xh, .int np, .int un])), (fa, .inr (0, [.int fst, .ref fb, .int fwy, .ref fc, .int fmk, .int fwt])), (fb, .inl (cI, 24, .inl fvl)), (fc, .inl (cI, 84, .inl fpt))] [(xa, .inr (5, [.ref ta, .ref fa, .ref da, .ref na, .ref ga, .ref xp, .ref xs, .ref xi, .ref xh, .int np, .int un])), (fa, .inr (0, [.int fst, .ref fb, .int fwy, .ref fc, .int fmk, .int fwt])), (fb, .inl (cI, 24, .inl fvl)), (fc, .inl (cI, 84, .inl fpt))] (some (.int zz)) := by
  refine Ct.ofW (cc := cX5_isState) (maxL := 2) (ret := (some .boolean)) (by decide) rfl (Nat.le_of_ble_eq_true rfl) ?_
  intro p e s m args below meth c hx hb hr hml hts hown hlocks hnm hK hE A Q hQ hB H locs ls hP hD hS hl
  have hl : lv_has ls 2 [(0, .ref xa), (1, .int i)] := hl
  have w0 : ∀ w ∈ u_ws RX5 TX5 11, w ∈ wsX5_isState := by decide +kernel
  have w1 := hts (.fieldLink RX5 19 "MotionStates" "told" "LMotionStates$Figure;") (by decide +kernel)
  have w2 : ∀ w ∈ u_ws RX0 TX0 6, w ∈ wsX5_isState := by decide +kernel
  have w3 : (Cond.fieldLinkNest "MotionStates" 110 "MotionStates$Figure" "states" "I" "MotionStates").before args s = true := va_Nw.use rfl (hE.1 ("MotionStates", 110, "MotionStates$Figure", "states", "I", "MotionStates") (by decide +kernel))
  unfold f_X5_isState at hf
  refine lv_iload_n hx hb dX5_isState_0 rfl (lv_at hl 1 rfl) ?_
  refine lv_if_lt (tgt := 19) hx hb dX5_isState_1 (by decide) (fun c1 => ?_) (fun c1 => ?_)
  · have hf := if_p c1 hf
    refine lv_iconst (v := 0) hx hb dX5_isState_19 (by decide) ?_
    have h1 := Option.some.inj hf
    subst h1
    rw [hQ]
    exact W.zret (v := 0) (ty := .boolean) hx hb hr rfl (fun t ht hW => qEnd hP hS ht) hS.2.2 dX5_isState_20
  · have hf := if_n c1 hf
    refine lv_iload_n hx hb dX5_isState_4 rfl (lv_at hl 1 rfl) ?_
    refine lv_aload_n hx hb dX5_isState_5 rfl (lv_at hl 0 rfl) ?_
    refine va_get (D := D) (ci := 5) (v := .ref fa) (C := RX5) (T := TX5) (N := 11) hx hb hts w0 hown hK hP 0 rfl rfl 1 (by decide) w1 (fun _ h9 => h9) rfl dX5_isState_6 ?_
    refine va_getN (D := D) (ci := 0) (v := .int fst) (C := RX0) (T := TX0) (N := 6) hx hb hts w2 hown hK hP 1 rfl rfl 0 (by decide) w3 (fun _ h9 => h9) rfl dX5_isState_9 ?_
    refine lv_icmp_ge (tgt := 19) hx hb dX5_isState_12 (by decide) (fun c2 => ?_) (fun c2 => ?_)
    · have hf := if_p c2 hf
      refine lv_iconst (v := 0) hx hb dX5_isState_19 (by decide) ?_
      have h1 := Option.some.inj hf
      subst h1
      rw [hQ]
      exact W.zret (v := 0) (ty := .boolean) hx hb hr rfl (fun t ht hW => qEnd hP hS ht) hS.2.2 dX5_isState_20
    · have hf := if_n c2 hf
      refine lv_iconst (v := 1) hx hb dX5_isState_15 (by decide) ?_
      refine lv_goto (tgt := 20) hx hb dX5_isState_16 (by decide) ?_
      have h1 := Option.some.inj hf
      subst h1
      rw [hQ]
      exact W.zret (v := 1) (ty := .boolean) hx hb hr rfl (fun t ht hW => qEnd hP hS ht) hS.2.2 dX5_isState_20
set_option maxRecDepth 100000 in
set_option maxHeartbeats 4000000 in
theorem c_X5_write (l : Launch) (D : va_G) (B : Nat) (adK adV : Nat → Nat) (cC cF cI cZ cM cS : ClassId) (xa : Nat) (ta : Nat) (fa : Nat) (da : Nat) (na : Nat) (ga : Nat) (xp : Nat) (xs : Nat) (xi : Nat) (xh : Nat) (np : Int32) (un : Int32) (tb : Nat) (tln : Int32) (tcl : Int32) (tts : Int32) (tte : Int32) (tam : Int32) (tc : Nat) (tlt : Nat → Int32) (tsv : Nat → Int32) (ch : Int32) (zz : Int32 × (Nat → Int32) × Int32) (hf : f_X5_write tln tlt ch = some zz) : Ct l yX5_write wsX5_write { frames := 0, cells := 0, slots := 0, locals := 0 } D B adK adV (tysX cC cF cI cZ cM cS) [.ref xa, .int ch] [(xa, .inr (5, [.ref ta, .ref fa, .ref da, .ref na, .ref ga, .ref xp, .ref xs, .ref xi, .ref xh, .int np, .int un])), (ta, .inr (4, [.ref tb, .int tln, .int tcl, .int tts, .int tte, .int tam, .ref tc])), (tb, .inl (cC, 200, .inl tlt)), (tc, .inl (cI, 4, .inl tsv))] [(xa, .inr (5, [.ref ta, .ref fa, .ref da, .ref na, .ref ga, .ref xp, .ref xs, .ref xi, .ref xh, .int np, .int un])), (ta, .inr (4, [.ref tb, .int zz.2.2, .int tcl, .int tts, .int tte, .int tam, .ref tc])), (tb, .inl (cC, 200, .inl zz.2.1)), (tc, .inl (cI, 4, .inl tsv))] (some (.int zz.1)) := by
  refine Ct.ofW (cc := cX5_write) (maxL := 2) (ret := (some .int)) (by decide) rfl (Nat.le_of_ble_eq_true rfl) ?_
  intro p e s m args below meth c hx hb hr hml hts hown hlocks hnm hK hE A Q hQ hB H locs ls hP hD hS hl
  have hl : lv_has ls 2 [(0, .ref xa), (1, .int ch)] := hl
  have w0 : ∀ w ∈ u_ws RX5 TX5 11, w ∈ wsX5_write := by decide +kernel
  have w1 := hts (.fieldLink RX5 10 "MotionStates" "text" "LMotionStates$Text;") (by decide +kernel)
  have w2 : ∀ w ∈ u_ws RX4 TX4 7, w ∈ wsX5_write := by decide +kernel
  have w3 : (Cond.fieldLinkNest "MotionStates" 54 "MotionStates$Text" "length" "I" "MotionStates").before args s = true := va_Nw.use rfl (hE.1 ("MotionStates", 54, "MotionStates$Text", "length", "I", "MotionStates") (by decide +kernel))
  have w4 : (Cond.fieldLinkNest "MotionStates" 58 "MotionStates$Text" "letters" "[C" "MotionStates").before args s = true := va_Nw.use rfl (hE.1 ("MotionStates", 58, "MotionStates$Text", "letters", "[C", "MotionStates") (by decide +kernel))
  unfold f_X5_write at hf
  refine lv_iload_n hx hb dX5_write_0 rfl (lv_at hl 1 rfl) ?_
  refine lv_if_lt (tgt := 11) hx hb dX5_write_1 (by decide) (fun c1 => ?_) (fun c1 => ?_)
  · have hf := if_p c1 hf
    refine lv_bipush (v := (-3)) hx hb dX5_write_11 (by decide) ?_
    have h1 := Option.some.inj hf
    subst h1
    rw [hQ]
    exact W.iret (v := (-3)) hx hb hr (fun t ht hW => qEnd hP hS ht) hS.2.2 dX5_write_13
  · have hf := if_n c1 hf
    refine lv_iload_n hx hb dX5_write_4 rfl (lv_at hl 1 rfl) ?_
    refine lv_sipush (v := 255) hx hb dX5_write_5 (by decide) ?_
    refine lv_icmp_le (tgt := 14) hx hb dX5_write_8 (by decide) (fun c2 => ?_) (fun c2 => ?_)
    · have hf := if_p c2 hf
      refine lv_aload_n hx hb dX5_write_14 rfl (lv_at hl 0 rfl) ?_
      refine va_get (D := D) (ci := 5) (v := .ref ta) (C := RX5) (T := TX5) (N := 11) hx hb hts w0 hown hK hP 0 rfl rfl 0 (by decide) w1 (fun _ h9 => h9) rfl dX5_write_15 ?_
      refine va_getN (D := D) (ci := 4) (v := .int tln) (C := RX4) (T := TX4) (N := 7) hx hb hts w2 hown hK hP 1 rfl rfl 1 (by decide) w3 (fun _ h9 => h9) rfl dX5_write_18 ?_
      refine lv_sipush (v := 200) hx hb dX5_write_21 (by decide) ?_
      refine lv_icmp_lt (tgt := 30) hx hb dX5_write_24 (by decide) (fun c3 => ?_) (fun c3 => ?_)
      · have hf := if_p c3 hf
        refine lv_aload_n hx hb dX5_write_30 rfl (lv_at hl 0 rfl) ?_
        refine va_get (D := D) (ci := 5) (v := .ref ta) (C := RX5) (T := TX5) (N := 11) hx hb hts w0 hown hK hP 0 rfl rfl 0 (by decide) w1 (fun _ h9 => h9) rfl dX5_write_31 ?_
        refine va_getN (D := D) (ci := 4) (v := .ref tb) (C := RX4) (T := TX4) (N := 7) hx hb hts w2 hown hK hP 1 rfl rfl 0 (by decide) w4 (fun _ h9 => h9) rfl dX5_write_34 ?_
        refine lv_aload_n hx hb dX5_write_37 rfl (lv_at hl 0 rfl) ?_
        refine va_get (D := D) (ci := 5) (v := .ref ta) (C := RX5) (T := TX5) (N := 11) hx hb hts w0 hown hK hP 0 rfl rfl 0 (by decide) w1 (fun _ h9 => h9) rfl dX5_write_38 ?_
        refine va_getN (D := D) (ci := 4) (v := .int tln) (C := RX4) (T := TX4) (N := 7) hx hb hts w2 hown hK hP 1 rfl rfl 1 (by decide) w3 (fun _ h9 => h9) rfl dX5_write_41 ?_
        refine lv_iload_n hx hb dX5_write_44 rfl (lv_at hl 1 rfl) ?_
        refine lv_i2c hx hb dX5_write_45 rfl ?_
        obtain ⟨g4, hf⟩ := gd_inv hf
        refine va_cast hx hb hK hP hD hS 2 0 rfl rfl g4 dX5_write_46 (fun H locs hP hD hS => ?_)
        have hP : va_P D vwCl [(xa, .inr (5, [.ref ta, .ref fa, .ref da, .ref na, .ref ga, .ref xp, .ref xs, .ref xi, .ref xh, .int np, .int un])), (ta, .inr (4, [.ref tb, .int tln, .int tcl, .int tts, .int tte, .int tam, .ref tc])), (tb, .inl (cC, 200, .inl (upd tlt tln.toNatClampNeg (vp_nar .char ((ch.toUInt32 % 65536).toInt32))))), (tc, .inl (cI, 4, .inl tsv))] H := hP
        have hD : va_D A [(xa, .inr (5, [.ref ta, .ref fa, .ref da, .ref na, .ref ga, .ref xp, .ref xs, .ref xi, .ref xh, .int np, .int un])), (ta, .inr (4, [.ref tb, .int tln, .int tcl, .int tts, .int tte, .int tam, .ref tc])), (tb, .inl (cC, 200, .inl (upd tlt tln.toNatClampNeg (vp_nar .char ((ch.toUInt32 % 65536).toInt32))))), (tc, .inl (cI, 4, .inl tsv))] := hD
        refine lv_aload_n hx hb dX5_write_47 rfl (lv_at hl 0 rfl) ?_
        refine va_get (D := D) (ci := 5) (v := .ref ta) (C := RX5) (T := TX5) (N := 11) hx hb hts w0 hown hK hP 0 rfl rfl 0 (by decide) w1 (fun _ h9 => h9) rfl dX5_write_48 ?_
        refine lv_dup hx hb dX5_write_51 rfl ?_
        refine va_getN (D := D) (ci := 4) (v := .int tln) (C := RX4) (T := TX4) (N := 7) hx hb hts w2 hown hK hP 1 rfl rfl 1 (by decide) w3 (fun _ h9 => h9) rfl dX5_write_52 ?_
        refine lv_iconst (v := 1) hx hb dX5_write_55 (by decide) ?_
        refine lv_iadd hx hb dX5_write_56 ?_
        refine va_putN (D := D) (ci := 4) (v := .int (tln + 1)) (ty := .int) (C := RX4) (T := TX4) (N := 7) hx hb hts w2 tyX4 tyX4_ok nmX4 hown hK hP hD hS 1 rfl rfl 1 (by decide) w3 (fun _ h9 => h9) rfl (by decide +kernel) rfl rfl (Nat.le_of_ble_eq_true rfl) dX5_write_57 (fun H locs hP hD hS => ?_)
        have hP : va_P D vwCl [(xa, .inr (5, [.ref ta, .ref fa, .ref da, .ref na, .ref ga, .ref xp, .ref xs, .ref xi, .ref xh, .int np, .int un])), (ta, .inr (4, [.ref tb, .int (tln + 1), .int tcl, .int tts, .int tte, .int tam, .ref tc])), (tb, .inl (cC, 200, .inl (upd tlt tln.toNatClampNeg (vp_nar .char ((ch.toUInt32 % 65536).toInt32))))), (tc, .inl (cI, 4, .inl tsv))] H := hP
        have hD : va_D A [(xa, .inr (5, [.ref ta, .ref fa, .ref da, .ref na, .ref ga, .ref xp, .ref xs, .ref xi, .ref xh, .int np, .int un])), (ta, .inr (4, [.ref tb, .int (tln + 1), .int tcl, .int tts, .int tte, .int tam, .ref tc])), (tb, .inl (cC, 200, .inl (upd tlt tln.toNatClampNeg (vp_nar .char ((ch.toUInt32 % 65536).toInt32))))), (tc, .inl (cI, 4, .inl tsv))] := hD
        refine lv_aload_n hx hb dX5_write_60 rfl (lv_at hl 0 rfl) ?_
        refine va_get (D := D) (ci := 5) (v := .ref ta) (C := RX5) (T := TX5) (N := 11) hx hb hts w0 hown hK hP 0 rfl rfl 0 (by decide) w1 (fun _ h9 => h9) rfl dX5_write_61 ?_
        refine va_getN (D := D) (ci := 4) (v := .int (tln + 1)) (C := RX4) (T := TX4) (N := 7) hx hb hts w2 hown hK hP 1 rfl rfl 1 (by decide) w3 (fun _ h9 => h9) rfl dX5_write_64 ?_
        have h1 := Option.some.inj hf
        subst h1
        rw [hQ]
        exact W.iret (v := (tln + 1)) hx hb hr (fun t ht hW => qEnd hP hS ht) hS.2.2 dX5_write_67
      · have hf := if_n c3 hf
        refine lv_bipush (v := (-5)) hx hb dX5_write_27 (by decide) ?_
        have h1 := Option.some.inj hf
        subst h1
        rw [hQ]
        exact W.iret (v := (-5)) hx hb hr (fun t ht hW => qEnd hP hS ht) hS.2.2 dX5_write_29
    · have hf := if_n c2 hf
      refine lv_bipush (v := (-3)) hx hb dX5_write_11 (by decide) ?_
      have h1 := Option.some.inj hf
      subst h1
      rw [hQ]
      exact W.iret (v := (-3)) hx hb hr (fun t ht hW => qEnd hP hS ht) hS.2.2 dX5_write_13
set_option maxRecDepth 100000 in
set_option maxHeartbeats 4000000 in
theorem c_X5_erase (l : Launch) (D : va_G) (B : Nat) (adK adV : Nat → Nat) (cC cF cI cZ cM cS : ClassId) (xa : Nat) (ta : Nat) (fa : Nat) (da : Nat) (na : Nat) (ga : Nat) (xp : Nat) (xs : Nat) (xi : Nat) (xh : Nat) (np : Int32) (un : Int32) (tb : Nat) (tln : Int32) (tcl : Int32) (tts : Int32) (tte : Int32) (tam : Int32) (tc : Nat) (tlt : Nat → Int32) (tsv : Nat → Int32) (zz : Int32 × Int32) (hf : f_X5_erase tln = some zz) : Ct l yX5_erase wsX5_erase { frames := 0, cells := 0, slots := 0, locals := 0 } D B adK adV (tysX cC cF cI cZ cM cS) [.ref xa] [(xa, .inr (5, [.ref ta, .ref fa, .ref da, .ref na, .ref ga, .ref xp, .ref xs, .ref xi, .ref xh, .int np, .int un])), (ta, .inr (4, [.ref tb, .int tln, .int tcl, .int tts, .int tte, .int tam, .ref tc])), (tb, .inl (cC, 200, .inl tlt)), (tc, .inl (cI, 4, .inl tsv))] [(xa, .inr (5, [.ref ta, .ref fa, .ref da, .ref na, .ref ga, .ref xp, .ref xs, .ref xi, .ref xh, .int np, .int un])), (ta, .inr (4, [.ref tb, .int zz.2, .int tcl, .int tts, .int tte, .int tam, .ref tc])), (tb, .inl (cC, 200, .inl tlt)), (tc, .inl (cI, 4, .inl tsv))] (some (.int zz.1)) := by
  refine Ct.ofW (cc := cX5_erase) (maxL := 2) (ret := (some .int)) (by decide) rfl (Nat.le_of_ble_eq_true rfl) ?_
  intro p e s m args below meth c hx hb hr hml hts hown hlocks hnm hK hE A Q hQ hB H locs ls hP hD hS hl
  have hl : lv_has ls 2 [(0, .ref xa)] := hl
  have w0 : ∀ w ∈ u_ws RX5 TX5 11, w ∈ wsX5_erase := by decide +kernel
  have w1 := hts (.fieldLink RX5 10 "MotionStates" "text" "LMotionStates$Text;") (by decide +kernel)
  have w2 : ∀ w ∈ u_ws RX4 TX4 7, w ∈ wsX5_erase := by decide +kernel
  have w3 : (Cond.fieldLinkNest "MotionStates" 54 "MotionStates$Text" "length" "I" "MotionStates").before args s = true := va_Nw.use rfl (hE.1 ("MotionStates", 54, "MotionStates$Text", "length", "I", "MotionStates") (by decide +kernel))
  unfold f_X5_erase at hf
  refine lv_aload_n hx hb dX5_erase_0 rfl (lv_at hl 0 rfl) ?_
  refine va_get (D := D) (ci := 5) (v := .ref ta) (C := RX5) (T := TX5) (N := 11) hx hb hts w0 hown hK hP 0 rfl rfl 0 (by decide) w1 (fun _ h9 => h9) rfl dX5_erase_1 ?_
  refine va_getN (D := D) (ci := 4) (v := .int tln) (C := RX4) (T := TX4) (N := 7) hx hb hts w2 hown hK hP 1 rfl rfl 1 (by decide) w3 (fun _ h9 => h9) rfl dX5_erase_4 ?_
  refine lv_istore_n (lv' := [(1, .int tln), (0, .ref xa)]) hx hb dX5_erase_7 rfl hl (by decide) rfl (fun ls hl => ?_)
  refine lv_aload_n hx hb dX5_erase_8 rfl (lv_at hl 1 rfl) ?_
  refine va_get (D := D) (ci := 5) (v := .ref ta) (C := RX5) (T := TX5) (N := 11) hx hb hts w0 hown hK hP 0 rfl rfl 0 (by decide) w1 (fun _ h9 => h9) rfl dX5_erase_9 ?_
  refine lv_iconst (v := 0) hx hb dX5_erase_12 (by decide) ?_
  refine va_putN (D := D) (ci := 4) (v := .int 0) (ty := .int) (C := RX4) (T := TX4) (N := 7) hx hb hts w2 tyX4 tyX4_ok nmX4 hown hK hP hD hS 1 rfl rfl 1 (by decide) w3 (fun _ h9 => h9) rfl (by decide +kernel) rfl rfl (Nat.le_of_ble_eq_true rfl) dX5_erase_13 (fun H locs hP hD hS => ?_)
  have hP : va_P D vwCl [(xa, .inr (5, [.ref ta, .ref fa, .ref da, .ref na, .ref ga, .ref xp, .ref xs, .ref xi, .ref xh, .int np, .int un])), (ta, .inr (4, [.ref tb, .int 0, .int tcl, .int tts, .int tte, .int tam, .ref tc])), (tb, .inl (cC, 200, .inl tlt)), (tc, .inl (cI, 4, .inl tsv))] H := hP
  have hD : va_D A [(xa, .inr (5, [.ref ta, .ref fa, .ref da, .ref na, .ref ga, .ref xp, .ref xs, .ref xi, .ref xh, .int np, .int un])), (ta, .inr (4, [.ref tb, .int 0, .int tcl, .int tts, .int tte, .int tam, .ref tc])), (tb, .inl (cC, 200, .inl tlt)), (tc, .inl (cI, 4, .inl tsv))] := hD
  refine lv_iload_n hx hb dX5_erase_16 rfl (lv_at hl 0 rfl) ?_
  have h1 := Option.some.inj hf
  subst h1
  rw [hQ]
  exact W.iret (v := tln) hx hb hr (fun t ht hW => qEnd hP hS ht) hS.2.2 dX5_erase_17
set_option maxRecDepth 100000 in
set_option maxHeartbeats 4000000 in
theorem c_X5_value (l : Launch) (D : va_G) (B : Nat) (adK adV : Nat → Nat) (cC cF cI cZ cM cS : ClassId) (xa : Nat) (ta : Nat) (fa : Nat) (da : Nat) (na : Nat) (ga : Nat) (xp : Nat) (xs : Nat) (xi : Nat) (xh : Nat) (np : Int32) (un : Int32) (fst : Int32) (fb : Nat) (fwy : Int32) (fc : Nat) (fmk : Int32) (fwt : Int32) (fvl : Nat → Int32) (fpt : Nat → Int32) (i : Int32) (k : Int32) (zz : Int32) (hf : f_X5_value fst fvl i k = some zz) : Ct l yX5_value wsX5_value { frames := 1, cells := 0, slots := 0, locals := 21 } D B adK adV (tysX cC cF cI cZ cM cS) [.ref xa, .int i, .int k] [(xa, .inr (5, [.ref ta, .ref fa, .ref da, .ref na, .ref ga, .ref xp, .ref xs, .ref xi, .ref xh, .int np, .int un])), (fa, .inr (0, [.int fst, .ref fb, .int fwy, .ref fc, .int fmk, .int fwt])), (fb, .inl (cI, 24, .inl fvl)), (fc, .inl (cI, 84, .inl fpt))] [(xa, .inr (5, [.ref ta, .ref fa, .ref da, .ref na, .ref ga, .ref xp, .ref xs, .ref xi, .ref xh, .int np, .int un])), (fa, .inr (0, [.int fst, .ref fb, .int fwy, .ref fc, .int fmk, .int fwt])), (fb, .inl (cI, 24, .inl fvl)), (fc, .inl (cI, 84, .inl fpt))] (some (.int zz)) := by
  refine Ct.ofW (cc := cX5_value) (maxL := 3) (ret := (some .int)) (by decide) rfl (Nat.le_of_ble_eq_true rfl) ?_
  intro p e s m args below meth c hx hb hr hml hts hown hlocks hnm hK hE A Q hQ hB H locs ls hP hD hS hl
  have hl : lv_has ls 3 [(0, .ref xa), (1, .int i), (2, .int k)] := hl
  have w0 : ∀ w ∈ u_ws RX5 TX5 11, w ∈ wsX5_value := by decide +kernel
  have w1 := hts (.fieldLink RX5 19 "MotionStates" "told" "LMotionStates$Figure;") (by decide +kernel)
  have w2 : ∀ w ∈ u_ws RX0 TX0 6, w ∈ wsX5_value := by decide +kernel
  have w3 : (Cond.fieldLinkNest "MotionStates" 83 "MotionStates$Figure" "values" "[I" "MotionStates").before args s = true := va_Nw.use rfl (hE.1 ("MotionStates", 83, "MotionStates$Figure", "values", "[I", "MotionStates") (by decide +kernel))
  unfold f_X5_value at hf
  refine lv_aload_n hx hb dX5_value_0 rfl (lv_at hl 0 rfl) ?_
  refine lv_iload_n hx hb dX5_value_1 rfl (lv_at hl 1 rfl) ?_
  obtain ⟨r1, hc2, hf⟩ := bd_inv hf
  refine xcV (As := [.int i]) (rest := []) (ws' := [(xa, .inr (5, [.ref ta, .ref fa, .ref da, .ref na, .ref ga, .ref xp, .ref xs, .ref xi, .ref xh, .int np, .int un])), (fa, .inr (0, [.int fst, .ref fb, .int fwy, .ref fc, .int fmk, .int fwt])), (fb, .inl (cI, 24, .inl fvl)), (fc, .inl (cI, 84, .inl fpt))]) ⟨hx, hb, hml, hown, hts⟩ (c_X5_isState l D B adK adV cC cF cI cZ cM cS xa ta fa da na ga xp xs xi xh np un fst fb fwy fc fmk fwt fvl fpt i  r1 hc2) (cwV 1 hts gX5_value_X5_isState rfl rfl rfl (by decide +kernel) ⟨Nat.le_of_ble_eq_true rfl, Nat.le_of_ble_eq_true rfl⟩) (va_recv hK hP (ci := 5) (q0 := 0) rfl rfl) hK hP hD hS hB hE [0, 1, 2, 3] rfl rfl rfl rfl rfl hl.1 rfl (Nat.le_of_ble_eq_true rfl) dX5_value_2 ⟨Nat.le_of_ble_eq_true rfl, Nat.le_of_ble_eq_true rfl⟩ (fun H locs hP hD hS => ?_)
  refine W.eq (g2 := F0 m 5 ls [.int r1]) rfl ?_
  refine lv_if_eq (tgt := 15) hx hb dX5_value_5 (by decide) (fun c3 => ?_) (fun c3 => ?_)
  · have hf := if_p c3 hf
    refine lv_bipush (v := (-2)) hx hb dX5_value_15 (by decide) ?_
    have h1 := Option.some.inj hf
    subst h1
    rw [hQ]
    exact W.iret (v := (-2)) hx hb hr (fun t ht hW => qEnd hP hS ht) hS.2.2 dX5_value_17
  · have hf := if_n c3 hf
    refine lv_iload_n hx hb dX5_value_8 rfl (lv_at hl 2 rfl) ?_
    obtain ⟨r4, hc5, hf⟩ := bd_inv hf
    refine xcS (As := [.int k]) (rest := []) (ws' := [(xa, .inr (5, [.ref ta, .ref fa, .ref da, .ref na, .ref ga, .ref xp, .ref xs, .ref xi, .ref xh, .int np, .int un])), (fa, .inr (0, [.int fst, .ref fb, .int fwy, .ref fc, .int fmk, .int fwt])), (fb, .inl (cI, 24, .inl fvl)), (fc, .inl (cI, 84, .inl fpt))]) ⟨hx, hb, hml, hown, hts⟩ (c_X5_isLimb l D B adK adV cC cF cI cZ cM cS k  r4 hc5) (va_cwS 1 hts gX5_value_X5_isLimb rfl rfl rfl (by decide +kernel) ⟨Nat.le_of_ble_eq_true rfl, Nat.le_of_ble_eq_true rfl⟩) hK hP hD hS hB hE [] rfl rfl rfl rfl rfl hl.1 rfl (Nat.le_of_ble_eq_true rfl) dX5_value_9 ⟨Nat.le_of_ble_eq_true rfl, Nat.le_of_ble_eq_true rfl⟩ (fun H locs hP hD hS => ?_)
    refine W.eq (g2 := F0 m 12 ls [.int r4]) rfl ?_
    refine lv_if_ne (tgt := 18) hx hb dX5_value_12 (by decide) (fun c6 => ?_) (fun c6 => ?_)
    · have hf := if_n c6 hf
      refine lv_aload_n hx hb dX5_value_18 rfl (lv_at hl 0 rfl) ?_
      refine va_get (D := D) (ci := 5) (v := .ref fa) (C := RX5) (T := TX5) (N := 11) hx hb hts w0 hown hK hP 0 rfl rfl 1 (by decide) w1 (fun _ h9 => h9) rfl dX5_value_19 ?_
      refine va_getN (D := D) (ci := 0) (v := .ref fb) (C := RX0) (T := TX0) (N := 6) hx hb hts w2 hown hK hP 1 rfl rfl 1 (by decide) w3 (fun _ h9 => h9) rfl dX5_value_22 ?_
      refine lv_iload_n hx hb dX5_value_25 rfl (lv_at hl 1 rfl) ?_
      refine lv_iconst (v := 4) hx hb dX5_value_26 (by decide) ?_
      refine lv_imul hx hb dX5_value_27 ?_
      refine lv_iload_n hx hb dX5_value_28 rfl (lv_at hl 2 rfl) ?_
      refine lv_iadd hx hb dX5_value_29 ?_
      obtain ⟨g7, hf⟩ := gd_inv hf
      refine va_iald hx hb hK hP 2 2 rfl rfl g7 dX5_value_30 ?_
      refine lv_bipush (v := 100) hx hb dX5_value_31 (by decide) ?_
      refine lv_iadd hx hb dX5_value_33 ?_
      have h1 := Option.some.inj hf
      subst h1
      rw [hQ]
      exact W.iret (v := ((fvl (((i * 4) + k).toNatClampNeg)) + 100)) hx hb hr (fun t ht hW => qEnd hP hS ht) hS.2.2 dX5_value_34
    · have hf := if_p c6 hf
      refine lv_bipush (v := (-2)) hx hb dX5_value_15 (by decide) ?_
      have h1 := Option.some.inj hf
      subst h1
      rw [hQ]
      exact W.iret (v := (-2)) hx hb hr (fun t ht hW => qEnd hP hS ht) hS.2.2 dX5_value_17
set_option maxRecDepth 100000 in
set_option maxHeartbeats 4000000 in
theorem c_X5_way (l : Launch) (D : va_G) (B : Nat) (adK adV : Nat → Nat) (cC cF cI cZ cM cS : ClassId) (xa : Nat) (ta : Nat) (fa : Nat) (da : Nat) (na : Nat) (ga : Nat) (xp : Nat) (xs : Nat) (xi : Nat) (xh : Nat) (np : Int32) (un : Int32) (fst : Int32) (fb : Nat) (fwy : Int32) (fc : Nat) (fmk : Int32) (fwt : Int32) (fvl : Nat → Int32) (fpt : Nat → Int32) (i : Int32) (k : Int32) (zz : Int32) (hf : f_X5_way fwy fpt i k = some zz) : Ct l yX5_way wsX5_way { frames := 1, cells := 0, slots := 0, locals := 22 } D B adK adV (tysX cC cF cI cZ cM cS) [.ref xa, .int i, .int k] [(xa, .inr (5, [.ref ta, .ref fa, .ref da, .ref na, .ref ga, .ref xp, .ref xs, .ref xi, .ref xh, .int np, .int un])), (fa, .inr (0, [.int fst, .ref fb, .int fwy, .ref fc, .int fmk, .int fwt])), (fb, .inl (cI, 24, .inl fvl)), (fc, .inl (cI, 84, .inl fpt))] [(xa, .inr (5, [.ref ta, .ref fa, .ref da, .ref na, .ref ga, .ref xp, .ref xs, .ref xi, .ref xh, .int np, .int un])), (fa, .inr (0, [.int fst, .ref fb, .int fwy, .ref fc, .int fmk, .int fwt])), (fb, .inl (cI, 24, .inl fvl)), (fc, .inl (cI, 84, .inl fpt))] (some (.int zz)) := by
  refine Ct.ofW (cc := cX5_way) (maxL := 4) (ret := (some .int)) (by decide) rfl (Nat.le_of_ble_eq_true rfl) ?_
  intro p e s m args below meth c hx hb hr hml hts hown hlocks hnm hK hE A Q hQ hB H locs ls hP hD hS hl
  have hl : lv_has ls 4 [(0, .ref xa), (1, .int i), (2, .int k)] := hl
  have w0 : ∀ w ∈ u_ws RX5 TX5 11, w ∈ wsX5_way := by decide +kernel
  have w1 := hts (.fieldLink RX5 19 "MotionStates" "told" "LMotionStates$Figure;") (by decide +kernel)
  have w2 : ∀ w ∈ u_ws RX0 TX0 6, w ∈ wsX5_way := by decide +kernel
  have w3 : (Cond.fieldLinkNest "MotionStates" 87 "MotionStates$Figure" "ways" "I" "MotionStates").before args s = true := va_Nw.use rfl (hE.1 ("MotionStates", 87, "MotionStates$Figure", "ways", "I", "MotionStates") (by decide +kernel))
  unfold f_X5_way at hf
  refine lv_iload_n hx hb dX5_way_0 rfl (lv_at hl 1 rfl) ?_
  refine lv_if_lt (tgt := 15) hx hb dX5_way_1 (by decide) (fun c1 => ?_) (fun c1 => ?_)
  · have hf := if_p c1 hf
    refine lv_bipush (v := (-2)) hx hb dX5_way_15 (by decide) ?_
    have h1 := Option.some.inj hf
    subst h1
    rw [hQ]
    exact W.iret (v := (-2)) hx hb hr (fun t ht hW => qEnd hP hS ht) hS.2.2 dX5_way_17
  · have hf := if_n c1 hf
    refine lv_iload_n hx hb dX5_way_4 rfl (lv_at hl 1 rfl) ?_
    refine lv_aload_n hx hb dX5_way_5 rfl (lv_at hl 0 rfl) ?_
    refine va_get (D := D) (ci := 5) (v := .ref fa) (C := RX5) (T := TX5) (N := 11) hx hb hts w0 hown hK hP 0 rfl rfl 1 (by decide) w1 (fun _ h9 => h9) rfl dX5_way_6 ?_
    refine va_getN (D := D) (ci := 0) (v := .int fwy) (C := RX0) (T := TX0) (N := 6) hx hb hts w2 hown hK hP 1 rfl rfl 2 (by decide) w3 (fun _ h9 => h9) rfl dX5_way_9 ?_
    refine lv_icmp_lt (tgt := 18) hx hb dX5_way_12 (by decide) (fun c2 => ?_) (fun c2 => ?_)
    · have hf := if_p c2 hf
      refine lv_iload_n hx hb dX5_way_18 rfl (lv_at hl 2 rfl) ?_
      refine lv_if_lt (tgt := 28) hx hb dX5_way_19 (by decide) (fun c3 => ?_) (fun c3 => ?_)
      · have hf := if_p c3 hf
        refine lv_bipush (v := (-3)) hx hb dX5_way_28 (by decide) ?_
        have h1 := Option.some.inj hf
        subst h1
        rw [hQ]
        exact W.iret (v := (-3)) hx hb hr (fun t ht hW => qEnd hP hS ht) hS.2.2 dX5_way_30
      · have hf := if_n c3 hf
        refine lv_iload_n hx hb dX5_way_22 rfl (lv_at hl 2 rfl) ?_
        refine lv_bipush (v := 7) hx hb dX5_way_23 (by decide) ?_
        refine lv_icmp_lt (tgt := 31) hx hb dX5_way_25 (by decide) (fun c4 => ?_) (fun c4 => ?_)
        · have hf := if_p c4 hf
          refine lv_aload_n hx hb dX5_way_31 rfl (lv_at hl 0 rfl) ?_
          refine va_get (D := D) (ci := 5) (v := .ref fa) (C := RX5) (T := TX5) (N := 11) hx hb hts w0 hown hK hP 0 rfl rfl 1 (by decide) w1 (fun _ h9 => h9) rfl dX5_way_32 ?_
          refine lv_iload_n hx hb dX5_way_35 rfl (lv_at hl 1 rfl) ?_
          refine lv_iload_n hx hb dX5_way_36 rfl (lv_at hl 2 rfl) ?_
          obtain ⟨r5, hc6, hf⟩ := bd_inv hf
          refine xcV (As := [.int i, .int k]) (rest := []) (ws' := [(xa, .inr (5, [.ref ta, .ref fa, .ref da, .ref na, .ref ga, .ref xp, .ref xs, .ref xi, .ref xh, .int np, .int un])), (fa, .inr (0, [.int fst, .ref fb, .int fwy, .ref fc, .int fmk, .int fwt])), (fb, .inl (cI, 24, .inl fvl)), (fc, .inl (cI, 84, .inl fpt))]) ⟨hx, hb, hml, hown, hts⟩ (c_X0_part l D B adK adV cC cF cI cZ cM cS fa fst fb fwy fc fmk fwt fvl fpt i k  r5 hc6) (cwV 2 hts gX5_way_X0_part rfl rfl rfl (by decide +kernel) ⟨Nat.le_of_ble_eq_true rfl, Nat.le_of_ble_eq_true rfl⟩) (va_recv hK hP (ci := 0) (q0 := 1) rfl rfl) hK hP hD hS hB hE [1, 2, 3] rfl rfl rfl rfl rfl hl.1 rfl (Nat.le_of_ble_eq_true rfl) dX5_way_37 ⟨Nat.le_of_ble_eq_true rfl, Nat.le_of_ble_eq_true rfl⟩ (fun H locs hP hD hS => ?_)
          refine W.eq (g2 := F0 m 40 ls [.int r5]) rfl ?_
          refine lv_istore_n (lv' := [(3, .int r5), (0, .ref xa), (1, .int i), (2, .int k)]) hx hb dX5_way_40 rfl hl (by decide) rfl (fun ls hl => ?_)
          refine lv_iload_n hx hb dX5_way_41 rfl (lv_at hl 3 rfl) ?_
          refine lv_bipush (v := 6) hx hb dX5_way_42 (by decide) ?_
          refine lv_icmp_ne (tgt := 54) hx hb dX5_way_44 (by decide) (fun c7 => ?_) (fun c7 => ?_)
          · have hf := if_n c7 hf
            refine lv_iload_n hx hb dX5_way_54 rfl (lv_at hl 0 rfl) ?_
            have h1 := Option.some.inj hf
            subst h1
            rw [hQ]
            exact W.iret (v := r5) hx hb hr (fun t ht hW => qEnd hP hS ht) hS.2.2 dX5_way_55
          · have hf := if_p c7 hf
            refine lv_iload_n hx hb dX5_way_47 rfl (lv_at hl 0 rfl) ?_
            refine lv_bipush (v := 100) hx hb dX5_way_48 (by decide) ?_
            refine lv_iadd hx hb dX5_way_50 ?_
            refine lv_goto (tgt := 55) hx hb dX5_way_51 (by decide) ?_
            have h1 := Option.some.inj hf
            subst h1
            rw [hQ]
            exact W.iret (v := (r5 + 100)) hx hb hr (fun t ht hW => qEnd hP hS ht) hS.2.2 dX5_way_55
        · have hf := if_n c4 hf
          refine lv_bipush (v := (-3)) hx hb dX5_way_28 (by decide) ?_
          have h1 := Option.some.inj hf
          subst h1
          rw [hQ]
          exact W.iret (v := (-3)) hx hb hr (fun t ht hW => qEnd hP hS ht) hS.2.2 dX5_way_30
    · have hf := if_n c2 hf
      refine lv_bipush (v := (-2)) hx hb dX5_way_15 (by decide) ?_
      have h1 := Option.some.inj hf
      subst h1
      rw [hQ]
      exact W.iret (v := (-2)) hx hb hr (fun t ht hW => qEnd hP hS ht) hS.2.2 dX5_way_17
set_option maxRecDepth 100000 in
set_option maxHeartbeats 4000000 in
theorem c_X5_lowerState (l : Launch) (D : va_G) (B : Nat) (adK adV : Nat → Nat) (cC cF cI cZ cM cS : ClassId) (xa : Nat) (ta : Nat) (fa : Nat) (da : Nat) (na : Nat) (ga : Nat) (xp : Nat) (xs : Nat) (xi : Nat) (xh : Nat) (np : Int32) (un : Int32) (fst : Int32) (fb : Nat) (fwy : Int32) (fc : Nat) (fmk : Int32) (fwt : Int32) (fvl : Nat → Int32) (fpt : Nat → Int32) (nla : Nat) (nua : Nat) (nn : Nat) (ntr : Int32) (nlst : Int32) (nlla : Int32) (nlbw : Int32) (nlbf : Int32) (nlbd : Int32) (nlb : Nat) (nlc : Nat) (nlsh : Nat → UInt32) (nlsb : Nat → UInt32) (nust : Int32) (nula : Int32) (nubw : Int32) (nubf : Int32) (nubd : Int32) (nub : Nat) (nuc : Nat) (nush : Nat → UInt32) (nusb : Nat → UInt32) (nnm : Nat → Int32) (zz : Int32) (hf : f_X5_lowerState fst nlst = some zz) : Ct l yX5_lowerState wsX5_lowerState { frames := 0, cells := 0, slots := 0, locals := 0 } D B adK adV (tysX cC cF cI cZ cM cS) [.ref xa] [(xa, .inr (5, [.ref ta, .ref fa, .ref da, .ref na, .ref ga, .ref xp, .ref xs, .ref xi, .ref xh, .int np, .int un])), (fa, .inr (0, [.int fst, .ref fb, .int fwy, .ref fc, .int fmk, .int fwt])), (fb, .inl (cI, 24, .inl fvl)), (fc, .inl (cI, 84, .inl fpt)), (na, .inr (2, [.ref nla, .ref nua, .ref nn, .int ntr])), (nla, .inr (1, [.int nlst, .int nlla, .int nlbw, .int nlbf, .int nlbd, .ref nlb, .ref nlc])), (nlb, .inl (cF, 6, .inr (.inr (.inl nlsh)))), (nlc, .inl (cF, 6, .inr (.inr (.inl nlsb)))), (nua, .inr (1, [.int nust, .int nula, .int nubw, .int nubf, .int nubd, .ref nub, .ref nuc])), (nub, .inl (cF, 6, .inr (.inr (.inl nush)))), (nuc, .inl (cF, 6, .inr (.inr (.inl nusb)))), (nn, .inl (cI, 3, .inl nnm))] [(xa, .inr (5, [.ref ta, .ref fa, .ref da, .ref na, .ref ga, .ref xp, .ref xs, .ref xi, .ref xh, .int np, .int un])), (fa, .inr (0, [.int fst, .ref fb, .int fwy, .ref fc, .int fmk, .int fwt])), (fb, .inl (cI, 24, .inl fvl)), (fc, .inl (cI, 84, .inl fpt)), (na, .inr (2, [.ref nla, .ref nua, .ref nn, .int ntr])), (nla, .inr (1, [.int nlst, .int nlla, .int nlbw, .int nlbf, .int nlbd, .ref nlb, .ref nlc])), (nlb, .inl (cF, 6, .inr (.inr (.inl nlsh)))), (nlc, .inl (cF, 6, .inr (.inr (.inl nlsb)))), (nua, .inr (1, [.int nust, .int nula, .int nubw, .int nubf, .int nubd, .ref nub, .ref nuc])), (nub, .inl (cF, 6, .inr (.inr (.inl nush)))), (nuc, .inl (cF, 6, .inr (.inr (.inl nusb)))), (nn, .inl (cI, 3, .inl nnm))] (some (.int zz)) := by
  refine Ct.ofW (cc := cX5_lowerState) (maxL := 1) (ret := (some .int)) (by decide) rfl (Nat.le_of_ble_eq_true rfl) ?_
  intro p e s m args below meth c hx hb hr hml hts hown hlocks hnm hK hE A Q hQ hB H locs ls hP hD hS hl
  have hl : lv_has ls 1 [(0, .ref xa)] := hl
  have w0 : ∀ w ∈ u_ws RX5 TX5 11, w ∈ wsX5_lowerState := by decide +kernel
  have w1 := hts (.fieldLink RX5 19 "MotionStates" "told" "LMotionStates$Figure;") (by decide +kernel)
  have w2 : ∀ w ∈ u_ws RX0 TX0 6, w ∈ wsX5_lowerState := by decide +kernel
  have w3 : (Cond.fieldLinkNest "MotionStates" 110 "MotionStates$Figure" "states" "I" "MotionStates").before args s = true := va_Nw.use rfl (hE.1 ("MotionStates", 110, "MotionStates$Figure", "states", "I", "MotionStates") (by decide +kernel))
  have w4 := hts (.fieldLink RX5 29 "MotionStates" "now" "LMotionStates$Motion;") (by decide +kernel)
  have w5 : ∀ w ∈ u_ws RX2 TX2 4, w ∈ wsX5_lowerState := by decide +kernel
  have w6 : (Cond.fieldLinkNest "MotionStates" 116 "MotionStates$Motion" "lower" "LMotionStates$Layer;" "MotionStates").before args s = true := va_Nw.use rfl (hE.1 ("MotionStates", 116, "MotionStates$Motion", "lower", "LMotionStates$Layer;", "MotionStates") (by decide +kernel))
  have w7 : ∀ w ∈ u_ws RX1 TX1 7, w ∈ wsX5_lowerState := by decide +kernel
  have w8 : (Cond.fieldLinkNest "MotionStates" 120 "MotionStates$Layer" "state" "I" "MotionStates").before args s = true := va_Nw.use rfl (hE.1 ("MotionStates", 120, "MotionStates$Layer", "state", "I", "MotionStates") (by decide +kernel))
  unfold f_X5_lowerState at hf
  refine lv_aload_n hx hb dX5_lowerState_0 rfl (lv_at hl 0 rfl) ?_
  refine va_get (D := D) (ci := 5) (v := .ref fa) (C := RX5) (T := TX5) (N := 11) hx hb hts w0 hown hK hP 0 rfl rfl 1 (by decide) w1 (fun _ h9 => h9) rfl dX5_lowerState_1 ?_
  refine va_getN (D := D) (ci := 0) (v := .int fst) (C := RX0) (T := TX0) (N := 6) hx hb hts w2 hown hK hP 1 rfl rfl 0 (by decide) w3 (fun _ h9 => h9) rfl dX5_lowerState_4 ?_
  refine lv_if_ne (tgt := 14) hx hb dX5_lowerState_7 (by decide) (fun c1 => ?_) (fun c1 => ?_)
  · have hf := if_n c1 hf
    refine lv_aload_n hx hb dX5_lowerState_14 rfl (lv_at hl 0 rfl) ?_
    refine va_get (D := D) (ci := 5) (v := .ref na) (C := RX5) (T := TX5) (N := 11) hx hb hts w0 hown hK hP 0 rfl rfl 3 (by decide) w4 (fun _ h9 => h9) rfl dX5_lowerState_15 ?_
    refine va_getN (D := D) (ci := 2) (v := .ref nla) (C := RX2) (T := TX2) (N := 4) hx hb hts w5 hown hK hP 4 rfl rfl 0 (by decide) w6 (fun _ h9 => h9) rfl dX5_lowerState_18 ?_
    refine va_getN (D := D) (ci := 1) (v := .int nlst) (C := RX1) (T := TX1) (N := 7) hx hb hts w7 hown hK hP 5 rfl rfl 0 (by decide) w8 (fun _ h9 => h9) rfl dX5_lowerState_21 ?_
    have h1 := Option.some.inj hf
    subst h1
    rw [hQ]
    exact W.iret (v := nlst) hx hb hr (fun t ht hW => qEnd hP hS ht) hS.2.2 dX5_lowerState_24
  · have hf := if_p c1 hf
    refine lv_iconst (v := (-1)) hx hb dX5_lowerState_10 (by decide) ?_
    refine lv_goto (tgt := 24) hx hb dX5_lowerState_11 (by decide) ?_
    have h1 := Option.some.inj hf
    subst h1
    rw [hQ]
    exact W.iret (v := (-1)) hx hb hr (fun t ht hW => qEnd hP hS ht) hS.2.2 dX5_lowerState_24
set_option maxRecDepth 100000 in
set_option maxHeartbeats 4000000 in
theorem c_X5_fault (l : Launch) (D : va_G) (B : Nat) (adK adV : Nat → Nat) (cC cF cI cZ cM cS : ClassId) (xa : Nat) (ta : Nat) (fa : Nat) (da : Nat) (na : Nat) (ga : Nat) (xp : Nat) (xs : Nat) (xi : Nat) (xh : Nat) (np : Int32) (un : Int32) (tb : Nat) (tln : Int32) (tcl : Int32) (tts : Int32) (tte : Int32) (tam : Int32) (tc : Nat) (tlt : Nat → Int32) (tsv : Nat → Int32) (fst : Int32) (fb : Nat) (fwy : Int32) (fc : Nat) (fmk : Int32) (fwt : Int32) (fvl : Nat → Int32) (fpt : Nat → Int32) (dst : Int32) (db : Nat) (dwy : Int32) (dc : Nat) (dmk : Int32) (dwt : Int32) (dvl : Nat → Int32) (dpt : Nat → Int32) (zz : Int32 × (Nat → Int32) × (Nat → Int32) × (Nat → Int32) × Int32 × Int32 × Int32 × Int32 × Int32 × Int32 × Int32 × Int32) (hf : f_X5_fault tln tam tlt tsv fst fwy fmk fwt fvl fpt dvl dpt = some zz) : Ct l yX5_fault wsX5_fault { frames := 9, cells := 0, slots := 0, locals := 194 } D B adK adV (tysX cC cF cI cZ cM cS) [.ref xa] [(xa, .inr (5, [.ref ta, .ref fa, .ref da, .ref na, .ref ga, .ref xp, .ref xs, .ref xi, .ref xh, .int np, .int un])), (ta, .inr (4, [.ref tb, .int tln, .int tcl, .int tts, .int tte, .int tam, .ref tc])), (tb, .inl (cC, 200, .inl tlt)), (tc, .inl (cI, 4, .inl tsv)), (fa, .inr (0, [.int fst, .ref fb, .int fwy, .ref fc, .int fmk, .int fwt])), (fb, .inl (cI, 24, .inl fvl)), (fc, .inl (cI, 84, .inl fpt)), (da, .inr (0, [.int dst, .ref db, .int dwy, .ref dc, .int dmk, .int dwt])), (db, .inl (cI, 24, .inl dvl)), (dc, .inl (cI, 84, .inl dpt))] [(xa, .inr (5, [.ref ta, .ref fa, .ref da, .ref na, .ref ga, .ref xp, .ref xs, .ref xi, .ref xh, .int np, .int un])), (ta, .inr (4, [.ref tb, .int tln, .int zz.2.2.2.2.1, .int zz.2.2.2.2.2.1, .int zz.2.2.2.2.2.2.1, .int zz.2.2.2.2.2.2.2.1, .ref tc])), (tb, .inl (cC, 200, .inl tlt)), (tc, .inl (cI, 4, .inl zz.2.1)), (fa, .inr (0, [.int fst, .ref fb, .int fwy, .ref fc, .int fmk, .int fwt])), (fb, .inl (cI, 24, .inl fvl)), (fc, .inl (cI, 84, .inl fpt)), (da, .inr (0, [.int zz.2.2.2.2.2.2.2.2.1, .ref db, .int zz.2.2.2.2.2.2.2.2.2.1, .ref dc, .int zz.2.2.2.2.2.2.2.2.2.2.1, .int zz.2.2.2.2.2.2.2.2.2.2.2])), (db, .inl (cI, 24, .inl zz.2.2.1)), (dc, .inl (cI, 84, .inl zz.2.2.2.1))] (some (.int zz.1)) := by
  refine Ct.ofW (cc := cX5_fault) (maxL := 1) (ret := (some .int)) (by decide) rfl (Nat.le_of_ble_eq_true rfl) ?_
  intro p e s m args below meth c hx hb hr hml hts hown hlocks hnm hK hE A Q hQ hB H locs ls hP hD hS hl
  have hl : lv_has ls 1 [(0, .ref xa)] := hl
  have w0 : ∀ w ∈ u_ws RX5 TX5 11, w ∈ wsX5_fault := by decide +kernel
  have w1 := hts (.fieldLink RX5 23 "MotionStates" "draft" "LMotionStates$Figure;") (by decide +kernel)
  have w2 := hts (.fieldLink RX5 19 "MotionStates" "told" "LMotionStates$Figure;") (by decide +kernel)
  have w3 := hts (.fieldLink RX5 10 "MotionStates" "text" "LMotionStates$Text;") (by decide +kernel)
  unfold f_X5_fault at hf
  refine lv_aload_n hx hb dX5_fault_0 rfl (lv_at hl 0 rfl) ?_
  refine va_get (D := D) (ci := 5) (v := .ref da) (C := RX5) (T := TX5) (N := 11) hx hb hts w0 hown hK hP 0 rfl rfl 2 (by decide) w1 (fun _ h9 => h9) rfl dX5_fault_1 ?_
  refine lv_aload_n hx hb dX5_fault_4 rfl (lv_at hl 0 rfl) ?_
  refine va_get (D := D) (ci := 5) (v := .ref fa) (C := RX5) (T := TX5) (N := 11) hx hb hts w0 hown hK hP 0 rfl rfl 1 (by decide) w2 (fun _ h9 => h9) rfl dX5_fault_5 ?_
  obtain ⟨⟨o1, o2, o3, o4, o5, o6⟩, hc7, hf⟩ := bd_inv hf
  refine xcV (As := [.ref fa]) (rest := []) (ws' := [(xa, .inr (5, [.ref ta, .ref fa, .ref da, .ref na, .ref ga, .ref xp, .ref xs, .ref xi, .ref xh, .int np, .int un])), (ta, .inr (4, [.ref tb, .int tln, .int tcl, .int tts, .int tte, .int tam, .ref tc])), (tb, .inl (cC, 200, .inl tlt)), (tc, .inl (cI, 4, .inl tsv)), (fa, .inr (0, [.int fst, .ref fb, .int fwy, .ref fc, .int fmk, .int fwt])), (fb, .inl (cI, 24, .inl fvl)), (fc, .inl (cI, 84, .inl fpt)), (da, .inr (0, [.int o3, .ref db, .int o4, .ref dc, .int o5, .int o6])), (db, .inl (cI, 24, .inl o1)), (dc, .inl (cI, 84, .inl o2))]) ⟨hx, hb, hml, hown, hts⟩ (c_X0_copyFrom l D B adK adV cC cF cI cZ cM cS da dst db dwy dc dmk dwt dvl dpt fa fst fb fwy fc fmk fwt fvl fpt  (o1, o2, o3, o4, o5, o6) hc7) (cwV 1 hts gX5_fault_X0_copyFrom rfl rfl rfl (by decide +kernel) ⟨Nat.le_of_ble_eq_true rfl, Nat.le_of_ble_eq_true rfl⟩) (va_recv hK hP (ci := 0) (q0 := 7) rfl rfl) hK hP hD hS hB hE [7, 8, 9, 4, 5, 6] rfl rfl rfl rfl rfl hl.1 rfl (Nat.le_of_ble_eq_true rfl) dX5_fault_8 ⟨Nat.le_of_ble_eq_true rfl, Nat.le_of_ble_eq_true rfl⟩ (fun H locs hP hD hS => ?_)
  refine W.eq (g2 := F0 m 11 ls []) rfl ?_
  refine lv_aload_n hx hb dX5_fault_11 rfl (lv_at hl 0 rfl) ?_
  refine va_get (D := D) (ci := 5) (v := .ref ta) (C := RX5) (T := TX5) (N := 11) hx hb hts w0 hown hK hP 0 rfl rfl 0 (by decide) w3 (fun _ h9 => h9) rfl dX5_fault_12 ?_
  refine lv_aload_n hx hb dX5_fault_15 rfl (lv_at hl 0 rfl) ?_
  refine va_get (D := D) (ci := 5) (v := .ref da) (C := RX5) (T := TX5) (N := 11) hx hb hts w0 hown hK hP 0 rfl rfl 2 (by decide) w1 (fun _ h9 => h9) rfl dX5_fault_16 ?_
  obtain ⟨⟨r8, o9, o10, o11, o12, o13, o14, o15, o16, o17, o18, o19⟩, hc20, hf⟩ := bd_inv hf
  refine xcV (As := [.ref da]) (rest := []) (ws' := [(xa, .inr (5, [.ref ta, .ref fa, .ref da, .ref na, .ref ga, .ref xp, .ref xs, .ref xi, .ref xh, .int np, .int un])), (ta, .inr (4, [.ref tb, .int tln, .int o12, .int o13, .int o14, .int o15, .ref tc])), (tb, .inl (cC, 200, .inl tlt)), (tc, .inl (cI, 4, .inl o9)), (fa, .inr (0, [.int fst, .ref fb, .int fwy, .ref fc, .int fmk, .int fwt])), (fb, .inl (cI, 24, .inl fvl)), (fc, .inl (cI, 84, .inl fpt)), (da, .inr (0, [.int o16, .ref db, .int o17, .ref dc, .int o18, .int o19])), (db, .inl (cI, 24, .inl o10)), (dc, .inl (cI, 84, .inl o11))]) ⟨hx, hb, hml, hown, hts⟩ (c_X4_readOnto l D B adK adV cC cF cI cZ cM cS ta tb tln tcl tts tte tam tc tlt tsv da o3 db o4 dc o5 o6 o1 o2  (r8, o9, o10, o11, o12, o13, o14, o15, o16, o17, o18, o19) hc20) (cwV 1 hts gX5_fault_X4_readOnto rfl rfl rfl (by decide +kernel) ⟨Nat.le_of_ble_eq_true rfl, Nat.le_of_ble_eq_true rfl⟩) (va_recv hK hP (ci := 4) (q0 := 1) rfl rfl) hK hP hD hS hB hE [1, 2, 3, 7, 8, 9] rfl rfl rfl rfl rfl hl.1 rfl (Nat.le_of_ble_eq_true rfl) dX5_fault_19 ⟨Nat.le_of_ble_eq_true rfl, Nat.le_of_ble_eq_true rfl⟩ (fun H locs hP hD hS => ?_)
  refine W.eq (g2 := F0 m 22 ls [.int r8]) rfl ?_
  have h1 := Option.some.inj hf
  subst h1
  rw [hQ]
  exact W.iret (v := r8) hx hb hr (fun t ht hW => qEnd hP hS ht) hS.2.2 dX5_fault_22
set_option maxRecDepth 100000 in
set_option maxHeartbeats 4000000 in
theorem c_X5_beginAnew (l : Launch) (D : va_G) (B : Nat) (adK adV : Nat → Nat) (cC cF cI cZ cM cS : ClassId) (xa : Nat) (ta : Nat) (fa : Nat) (da : Nat) (na : Nat) (ga : Nat) (xp : Nat) (xs : Nat) (xi : Nat) (xh : Nat) (np : Int32) (un : Int32) (nla : Nat) (nua : Nat) (nn : Nat) (ntr : Int32) (nlst : Int32) (nlla : Int32) (nlbw : Int32) (nlbf : Int32) (nlbd : Int32) (nlb : Nat) (nlc : Nat) (nlsh : Nat → UInt32) (nlsb : Nat → UInt32) (nust : Int32) (nula : Int32) (nubw : Int32) (nubf : Int32) (nubd : Int32) (nub : Nat) (nuc : Nat) (nush : Nat → UInt32) (nusb : Nat → UInt32) (nnm : Nat → Int32) (ist : Nat → Int32) (h0a : Nat) (h1a : Nat) (h2a : Nat) (h0ms : Int32) (h0mf : Int32) (h0pl : Int32) (h0b : Nat) (h0mk : Nat → Int32) (h1ms : Int32) (h1mf : Int32) (h1pl : Int32) (h1b : Nat) (h1mk : Nat → Int32) (h2ms : Int32) (h2mf : Int32) (h2pl : Int32) (h2b : Nat) (h2mk : Nat → Int32) (zz : (Nat → UInt32) × (Nat → UInt32) × (Nat → Int32) × (Nat → Int32) × (Nat → Int32) × (Nat → Int32) × (Nat → Int32) × Int32 × Int32 × Int32 × Int32 × Int32 × Int32 × Int32 × Int32 × Int32 × Int32 × Int32 × Int32 × Int32 × Int32 × Int32 × Int32 × Int32 × Int32 × Int32 × Int32 × Int32) (hf : f_X5_beginAnew nlsh nush nnm ist h0mk h1mk h2mk = some zz) : Ct l yX5_beginAnew wsX5_beginAnew { frames := 4, cells := 0, slots := 0, locals := 83 } D B adK adV (tysX cC cF cI cZ cM cS) [.ref xa] [(xa, .inr (5, [.ref ta, .ref fa, .ref da, .ref na, .ref ga, .ref xp, .ref xs, .ref xi, .ref xh, .int np, .int un])), (na, .inr (2, [.ref nla, .ref nua, .ref nn, .int ntr])), (nla, .inr (1, [.int nlst, .int nlla, .int nlbw, .int nlbf, .int nlbd, .ref nlb, .ref nlc])), (nlb, .inl (cF, 6, .inr (.inr (.inl nlsh)))), (nlc, .inl (cF, 6, .inr (.inr (.inl nlsb)))), (nua, .inr (1, [.int nust, .int nula, .int nubw, .int nubf, .int nubd, .ref nub, .ref nuc])), (nub, .inl (cF, 6, .inr (.inr (.inl nush)))), (nuc, .inl (cF, 6, .inr (.inr (.inl nusb)))), (nn, .inl (cI, 3, .inl nnm)), (xi, .inl (cZ, 2, .inl ist)), (xh, .inl (cS, 3, .inr (.inr (.inr (.inr (fun j => ([h0a, h1a, h2a] : List Nat)[j]?)))))), (h0a, .inr (3, [.int h0ms, .int h0mf, .int h0pl, .ref h0b])), (h0b, .inl (cI, 8, .inl h0mk)), (h1a, .inr (3, [.int h1ms, .int h1mf, .int h1pl, .ref h1b])), (h1b, .inl (cI, 8, .inl h1mk)), (h2a, .inr (3, [.int h2ms, .int h2mf, .int h2pl, .ref h2b])), (h2b, .inl (cI, 8, .inl h2mk))] [(xa, .inr (5, [.ref ta, .ref fa, .ref da, .ref na, .ref ga, .ref xp, .ref xs, .ref xi, .ref xh, .int np, .int zz.2.2.2.2.2.2.2.1])), (na, .inr (2, [.ref nla, .ref nua, .ref nn, .int zz.2.2.2.2.2.2.2.2.1])), (nla, .inr (1, [.int zz.2.2.2.2.2.2.2.2.2.1, .int zz.2.2.2.2.2.2.2.2.2.2.1, .int zz.2.2.2.2.2.2.2.2.2.2.2.1, .int zz.2.2.2.2.2.2.2.2.2.2.2.2.1, .int zz.2.2.2.2.2.2.2.2.2.2.2.2.2.1, .ref nlb, .ref nlc])), (nlb, .inl (cF, 6, .inr (.inr (.inl zz.1)))), (nlc, .inl (cF, 6, .inr (.inr (.inl nlsb)))), (nua, .inr (1, [.int zz.2.2.2.2.2.2.2.2.2.2.2.2.2.2.1, .int zz.2.2.2.2.2.2.2.2.2.2.2.2.2.2.2.1, .int zz.2.2.2.2.2.2.2.2.2.2.2.2.2.2.2.2.1, .int zz.2.2.2.2.2.2.2.2.2.2.2.2.2.2.2.2.2.1, .int zz.2.2.2.2.2.2.2.2.2.2.2.2.2.2.2.2.2.2.1, .ref nub, .ref nuc])), (nub, .inl (cF, 6, .inr (.inr (.inl zz.2.1)))), (nuc, .inl (cF, 6, .inr (.inr (.inl nusb)))), (nn, .inl (cI, 3, .inl zz.2.2.1)), (xi, .inl (cZ, 2, .inl zz.2.2.2.1)), (xh, .inl (cS, 3, .inr (.inr (.inr (.inr (fun j => ([h0a, h1a, h2a] : List Nat)[j]?)))))), (h0a, .inr (3, [.int zz.2.2.2.2.2.2.2.2.2.2.2.2.2.2.2.2.2.2.2.1, .int zz.2.2.2.2.2.2.2.2.2.2.2.2.2.2.2.2.2.2.2.2.1, .int zz.2.2.2.2.2.2.2.2.2.2.2.2.2.2.2.2.2.2.2.2.2.1, .ref h0b])), (h0b, .inl (cI, 8, .inl zz.2.2.2.2.1)), (h1a, .inr (3, [.int zz.2.2.2.2.2.2.2.2.2.2.2.2.2.2.2.2.2.2.2.2.2.2.1, .int zz.2.2.2.2.2.2.2.2.2.2.2.2.2.2.2.2.2.2.2.2.2.2.2.1, .int zz.2.2.2.2.2.2.2.2.2.2.2.2.2.2.2.2.2.2.2.2.2.2.2.2.1, .ref h1b])), (h1b, .inl (cI, 8, .inl zz.2.2.2.2.2.1)), (h2a, .inr (3, [.int zz.2.2.2.2.2.2.2.2.2.2.2.2.2.2.2.2.2.2.2.2.2.2.2.2.2.1, .int zz.2.2.2.2.2.2.2.2.2.2.2.2.2.2.2.2.2.2.2.2.2.2.2.2.2.2.1, .int zz.2.2.2.2.2.2.2.2.2.2.2.2.2.2.2.2.2.2.2.2.2.2.2.2.2.2.2, .ref h2b])), (h2b, .inl (cI, 8, .inl zz.2.2.2.2.2.2.1))] none := by
  refine Ct.ofW (cc := cX5_beginAnew) (maxL := 2) (ret := none) (by decide) rfl (Nat.le_of_ble_eq_true rfl) ?_
  intro p e s m args below meth c hx hb hr hml hts hown hlocks hnm hK hE A Q hQ hB H locs ls hP hD hS hl
  have hl : lv_has ls 2 [(0, .ref xa)] := hl
  have w0 : ∀ w ∈ u_ws RX5 TX5 11, w ∈ wsX5_beginAnew := by decide +kernel
  have w1 := hts (.fieldLink RX5 29 "MotionStates" "now" "LMotionStates$Motion;") (by decide +kernel)
  have w2 := hts (.fieldLink RX5 125 "MotionStates" "undoable" "I") (by decide +kernel)
  have w3 := hts (.fieldLink RX5 43 "MotionStates" "isStored" "[Z") (by decide +kernel)
  have w4 := hts (.fieldLink RX5 49 "MotionStates" "shelves" "[LMotionStates$Shelf;") (by decide +kernel)
  unfold f_X5_beginAnew at hf
  refine lv_aload_n hx hb dX5_beginAnew_0 rfl (lv_at hl 0 rfl) ?_
  refine va_get (D := D) (ci := 5) (v := .ref na) (C := RX5) (T := TX5) (N := 11) hx hb hts w0 hown hK hP 0 rfl rfl 3 (by decide) w1 (fun _ h9 => h9) rfl dX5_beginAnew_1 ?_
  obtain ⟨⟨o1, o2, o3, o4, o5, o6, o7, o8, o9, o10, o11, o12, o13, o14⟩, hc15, hf⟩ := bd_inv hf
  refine xcV (As := []) (rest := []) (ws' := [(xa, .inr (5, [.ref ta, .ref fa, .ref da, .ref na, .ref ga, .ref xp, .ref xs, .ref xi, .ref xh, .int np, .int un])), (na, .inr (2, [.ref nla, .ref nua, .ref nn, .int o4])), (nla, .inr (1, [.int o5, .int o6, .int o7, .int o8, .int o9, .ref nlb, .ref nlc])), (nlb, .inl (cF, 6, .inr (.inr (.inl o1)))), (nlc, .inl (cF, 6, .inr (.inr (.inl nlsb)))), (nua, .inr (1, [.int o10, .int o11, .int o12, .int o13, .int o14, .ref nub, .ref nuc])), (nub, .inl (cF, 6, .inr (.inr (.inl o2)))), (nuc, .inl (cF, 6, .inr (.inr (.inl nusb)))), (nn, .inl (cI, 3, .inl o3)), (xi, .inl (cZ, 2, .inl ist)), (xh, .inl (cS, 3, .inr (.inr (.inr (.inr (fun j => ([h0a, h1a, h2a] : List Nat)[j]?)))))), (h0a, .inr (3, [.int h0ms, .int h0mf, .int h0pl, .ref h0b])), (h0b, .inl (cI, 8, .inl h0mk)), (h1a, .inr (3, [.int h1ms, .int h1mf, .int h1pl, .ref h1b])), (h1b, .inl (cI, 8, .inl h1mk)), (h2a, .inr (3, [.int h2ms, .int h2mf, .int h2pl, .ref h2b])), (h2b, .inl (cI, 8, .inl h2mk))]) ⟨hx, hb, hml, hown, hts⟩ (c_X2_reset l D B adK adV cC cF cI cZ cM cS na nla nua nn ntr nlst nlla nlbw nlbf nlbd nlb nlc nlsh nlsb nust nula nubw nubf nubd nub nuc nush nusb nnm  (o1, o2, o3, o4, o5, o6, o7, o8, o9, o10, o11, o12, o13, o14) hc15) (cwV 0 hts gX5_beginAnew_X2_reset rfl rfl rfl (by decide +kernel) ⟨Nat.le_of_ble_eq_true rfl, Nat.le_of_ble_eq_true rfl⟩) (va_recv hK hP (ci := 2) (q0 := 1) rfl rfl) hK hP hD hS hB hE [1, 2, 3, 4, 5, 6, 7, 8] rfl rfl rfl rfl rfl hl.1 rfl (Nat.le_of_ble_eq_true rfl) dX5_beginAnew_4 ⟨Nat.le_of_ble_eq_true rfl, Nat.le_of_ble_eq_true rfl⟩ (fun H locs hP hD hS => ?_)
  refine W.eq (g2 := F0 m 7 ls []) rfl ?_
  refine lv_aload_n hx hb dX5_beginAnew_7 rfl (lv_at hl 0 rfl) ?_
  refine lv_iconst (v := 0) hx hb dX5_beginAnew_8 (by decide) ?_
  refine va_put (D := D) (ci := 5) (v := .int 0) (ty := .int) (C := RX5) (T := TX5) (N := 11) hx hb hts w0 tyX5 tyX5_ok nmX5 hown hK hP hD hS 0 rfl rfl 10 (by decide) w2 (fun _ h9 => h9) rfl (by decide +kernel) rfl rfl (Nat.le_of_ble_eq_true rfl) dX5_beginAnew_9 (fun H locs hP hD hS => ?_)
  have hP : va_P D vwCl [(xa, .inr (5, [.ref ta, .ref fa, .ref da, .ref na, .ref ga, .ref xp, .ref xs, .ref xi, .ref xh, .int np, .int 0])), (na, .inr (2, [.ref nla, .ref nua, .ref nn, .int o4])), (nla, .inr (1, [.int o5, .int o6, .int o7, .int o8, .int o9, .ref nlb, .ref nlc])), (nlb, .inl (cF, 6, .inr (.inr (.inl o1)))), (nlc, .inl (cF, 6, .inr (.inr (.inl nlsb)))), (nua, .inr (1, [.int o10, .int o11, .int o12, .int o13, .int o14, .ref nub, .ref nuc])), (nub, .inl (cF, 6, .inr (.inr (.inl o2)))), (nuc, .inl (cF, 6, .inr (.inr (.inl nusb)))), (nn, .inl (cI, 3, .inl o3)), (xi, .inl (cZ, 2, .inl ist)), (xh, .inl (cS, 3, .inr (.inr (.inr (.inr (fun j => ([h0a, h1a, h2a] : List Nat)[j]?)))))), (h0a, .inr (3, [.int h0ms, .int h0mf, .int h0pl, .ref h0b])), (h0b, .inl (cI, 8, .inl h0mk)), (h1a, .inr (3, [.int h1ms, .int h1mf, .int h1pl, .ref h1b])), (h1b, .inl (cI, 8, .inl h1mk)), (h2a, .inr (3, [.int h2ms, .int h2mf, .int h2pl, .ref h2b])), (h2b, .inl (cI, 8, .inl h2mk))] H := hP
  have hD : va_D A [(xa, .inr (5, [.ref ta, .ref fa, .ref da, .ref na, .ref ga, .ref xp, .ref xs, .ref xi, .ref xh, .int np, .int 0])), (na, .inr (2, [.ref nla, .ref nua, .ref nn, .int o4])), (nla, .inr (1, [.int o5, .int o6, .int o7, .int o8, .int o9, .ref nlb, .ref nlc])), (nlb, .inl (cF, 6, .inr (.inr (.inl o1)))), (nlc, .inl (cF, 6, .inr (.inr (.inl nlsb)))), (nua, .inr (1, [.int o10, .int o11, .int o12, .int o13, .int o14, .ref nub, .ref nuc])), (nub, .inl (cF, 6, .inr (.inr (.inl o2)))), (nuc, .inl (cF, 6, .inr (.inr (.inl nusb)))), (nn, .inl (cI, 3, .inl o3)), (xi, .inl (cZ, 2, .inl ist)), (xh, .inl (cS, 3, .inr (.inr (.inr (.inr (fun j => ([h0a, h1a, h2a] : List Nat)[j]?)))))), (h0a, .inr (3, [.int h0ms, .int h0mf, .int h0pl, .ref h0b])), (h0b, .inl (cI, 8, .inl h0mk)), (h1a, .inr (3, [.int h1ms, .int h1mf, .int h1pl, .ref h1b])), (h1b, .inl (cI, 8, .inl h1mk)), (h2a, .inr (3, [.int h2ms, .int h2mf, .int h2pl, .ref h2b])), (h2b, .inl (cI, 8, .inl h2mk))] := hD
  refine lv_iconst (v := 0) hx hb dX5_beginAnew_12 (by decide) ?_
  refine lv_istore_n (lv' := [(1, .int 0), (0, .ref xa)]) hx hb dX5_beginAnew_13 rfl hl (by decide) rfl (fun ls hl => ?_)
  refine lv_iload_n hx hb dX5_beginAnew_14 rfl (lv_at hl 0 rfl) ?_
  refine lv_iconst (v := 2) hx hb dX5_beginAnew_15 (by decide) ?_
  refine lv_icmp_ge (tgt := 32) hx hb dX5_beginAnew_16 (by decide) (fun c16 => absurd c16 (by decide)) (fun c16 => ?_)
  refine lv_aload_n hx hb dX5_beginAnew_19 rfl (lv_at hl 1 rfl) ?_
  refine va_get (D := D) (ci := 5) (v := .ref xi) (C := RX5) (T := TX5) (N := 11) hx hb hts w0 hown hK hP 0 rfl rfl 7 (by decide) w3 (fun _ h9 => h9) rfl dX5_beginAnew_20 ?_
  refine lv_iload_n hx hb dX5_beginAnew_23 rfl (lv_at hl 0 rfl) ?_
  refine lv_iconst (v := 0) hx hb dX5_beginAnew_24 (by decide) ?_
  refine va_zast hx hb hK hP hD hS 9 3 rfl rfl (show iok 0 2 by decide) dX5_beginAnew_25 (fun H locs hP hD hS => ?_)
  have hP : va_P D vwCl [(xa, .inr (5, [.ref ta, .ref fa, .ref da, .ref na, .ref ga, .ref xp, .ref xs, .ref xi, .ref xh, .int np, .int 0])), (na, .inr (2, [.ref nla, .ref nua, .ref nn, .int o4])), (nla, .inr (1, [.int o5, .int o6, .int o7, .int o8, .int o9, .ref nlb, .ref nlc])), (nlb, .inl (cF, 6, .inr (.inr (.inl o1)))), (nlc, .inl (cF, 6, .inr (.inr (.inl nlsb)))), (nua, .inr (1, [.int o10, .int o11, .int o12, .int o13, .int o14, .ref nub, .ref nuc])), (nub, .inl (cF, 6, .inr (.inr (.inl o2)))), (nuc, .inl (cF, 6, .inr (.inr (.inl nusb)))), (nn, .inl (cI, 3, .inl o3)), (xi, .inl (cZ, 2, .inl (upd ist 0 (vp_nar .boolean 0)))), (xh, .inl (cS, 3, .inr (.inr (.inr (.inr (fun j => ([h0a, h1a, h2a] : List Nat)[j]?)))))), (h0a, .inr (3, [.int h0ms, .int h0mf, .int h0pl, .ref h0b])), (h0b, .inl (cI, 8, .inl h0mk)), (h1a, .inr (3, [.int h1ms, .int h1mf, .int h1pl, .ref h1b])), (h1b, .inl (cI, 8, .inl h1mk)), (h2a, .inr (3, [.int h2ms, .int h2mf, .int h2pl, .ref h2b])), (h2b, .inl (cI, 8, .inl h2mk))] H := hP
  have hD : va_D A [(xa, .inr (5, [.ref ta, .ref fa, .ref da, .ref na, .ref ga, .ref xp, .ref xs, .ref xi, .ref xh, .int np, .int 0])), (na, .inr (2, [.ref nla, .ref nua, .ref nn, .int o4])), (nla, .inr (1, [.int o5, .int o6, .int o7, .int o8, .int o9, .ref nlb, .ref nlc])), (nlb, .inl (cF, 6, .inr (.inr (.inl o1)))), (nlc, .inl (cF, 6, .inr (.inr (.inl nlsb)))), (nua, .inr (1, [.int o10, .int o11, .int o12, .int o13, .int o14, .ref nub, .ref nuc])), (nub, .inl (cF, 6, .inr (.inr (.inl o2)))), (nuc, .inl (cF, 6, .inr (.inr (.inl nusb)))), (nn, .inl (cI, 3, .inl o3)), (xi, .inl (cZ, 2, .inl (upd ist 0 (vp_nar .boolean 0)))), (xh, .inl (cS, 3, .inr (.inr (.inr (.inr (fun j => ([h0a, h1a, h2a] : List Nat)[j]?)))))), (h0a, .inr (3, [.int h0ms, .int h0mf, .int h0pl, .ref h0b])), (h0b, .inl (cI, 8, .inl h0mk)), (h1a, .inr (3, [.int h1ms, .int h1mf, .int h1pl, .ref h1b])), (h1b, .inl (cI, 8, .inl h1mk)), (h2a, .inr (3, [.int h2ms, .int h2mf, .int h2pl, .ref h2b])), (h2b, .inl (cI, 8, .inl h2mk))] := hD
  refine lv_iinc (v := 1) (lv' := [(1, .int 1), (0, .ref xa)]) hx hb dX5_beginAnew_26 hl (k := 0) rfl (by decide) (by decide) rfl (fun ls hl => ?_)
  refine lv_goto (tgt := 14) hx hb dX5_beginAnew_29 (by decide) ?_
  refine lv_iload_n hx hb dX5_beginAnew_14 rfl (lv_at hl 0 rfl) ?_
  refine lv_iconst (v := 2) hx hb dX5_beginAnew_15 (by decide) ?_
  refine lv_icmp_ge (tgt := 32) hx hb dX5_beginAnew_16 (by decide) (fun c17 => absurd c17 (by decide)) (fun c17 => ?_)
  refine lv_aload_n hx hb dX5_beginAnew_19 rfl (lv_at hl 1 rfl) ?_
  refine va_get (D := D) (ci := 5) (v := .ref xi) (C := RX5) (T := TX5) (N := 11) hx hb hts w0 hown hK hP 0 rfl rfl 7 (by decide) w3 (fun _ h9 => h9) rfl dX5_beginAnew_20 ?_
  refine lv_iload_n hx hb dX5_beginAnew_23 rfl (lv_at hl 0 rfl) ?_
  refine lv_iconst (v := 0) hx hb dX5_beginAnew_24 (by decide) ?_
  refine va_zast hx hb hK hP hD hS 9 3 rfl rfl (show iok 1 2 by decide) dX5_beginAnew_25 (fun H locs hP hD hS => ?_)
  have hP : va_P D vwCl [(xa, .inr (5, [.ref ta, .ref fa, .ref da, .ref na, .ref ga, .ref xp, .ref xs, .ref xi, .ref xh, .int np, .int 0])), (na, .inr (2, [.ref nla, .ref nua, .ref nn, .int o4])), (nla, .inr (1, [.int o5, .int o6, .int o7, .int o8, .int o9, .ref nlb, .ref nlc])), (nlb, .inl (cF, 6, .inr (.inr (.inl o1)))), (nlc, .inl (cF, 6, .inr (.inr (.inl nlsb)))), (nua, .inr (1, [.int o10, .int o11, .int o12, .int o13, .int o14, .ref nub, .ref nuc])), (nub, .inl (cF, 6, .inr (.inr (.inl o2)))), (nuc, .inl (cF, 6, .inr (.inr (.inl nusb)))), (nn, .inl (cI, 3, .inl o3)), (xi, .inl (cZ, 2, .inl (upd (upd ist 0 (vp_nar .boolean 0)) 1 (vp_nar .boolean 0)))), (xh, .inl (cS, 3, .inr (.inr (.inr (.inr (fun j => ([h0a, h1a, h2a] : List Nat)[j]?)))))), (h0a, .inr (3, [.int h0ms, .int h0mf, .int h0pl, .ref h0b])), (h0b, .inl (cI, 8, .inl h0mk)), (h1a, .inr (3, [.int h1ms, .int h1mf, .int h1pl, .ref h1b])), (h1b, .inl (cI, 8, .inl h1mk)), (h2a, .inr (3, [.int h2ms, .int h2mf, .int h2pl, .ref h2b])), (h2b, .inl (cI, 8, .inl h2mk))] H := hP
  have hD : va_D A [(xa, .inr (5, [.ref ta, .ref fa, .ref da, .ref na, .ref ga, .ref xp, .ref xs, .ref xi, .ref xh, .int np, .int 0])), (na, .inr (2, [.ref nla, .ref nua, .ref nn, .int o4])), (nla, .inr (1, [.int o5, .int o6, .int o7, .int o8, .int o9, .ref nlb, .ref nlc])), (nlb, .inl (cF, 6, .inr (.inr (.inl o1)))), (nlc, .inl (cF, 6, .inr (.inr (.inl nlsb)))), (nua, .inr (1, [.int o10, .int o11, .int o12, .int o13, .int o14, .ref nub, .ref nuc])), (nub, .inl (cF, 6, .inr (.inr (.inl o2)))), (nuc, .inl (cF, 6, .inr (.inr (.inl nusb)))), (nn, .inl (cI, 3, .inl o3)), (xi, .inl (cZ, 2, .inl (upd (upd ist 0 (vp_nar .boolean 0)) 1 (vp_nar .boolean 0)))), (xh, .inl (cS, 3, .inr (.inr (.inr (.inr (fun j => ([h0a, h1a, h2a] : List Nat)[j]?)))))), (h0a, .inr (3, [.int h0ms, .int h0mf, .int h0pl, .ref h0b])), (h0b, .inl (cI, 8, .inl h0mk)), (h1a, .inr (3, [.int h1ms, .int h1mf, .int h1pl, .ref h1b])), (h1b, .inl (cI, 8, .inl h1mk)), (h2a, .inr (3, [.int h2ms, .int h2mf, .int h2pl, .ref h2b])), (h2b, .inl (cI, 8, .inl h2mk))] := hD
  refine lv_iinc (v := 2) (lv' := [(1, .int 2), (0, .ref xa)]) hx hb dX5_beginAnew_26 hl (k := 0) rfl (by decide) (by decide) rfl (fun ls hl => ?_)
  refine lv_goto (tgt := 14) hx hb dX5_beginAnew_29 (by decide) ?_
  refine lv_iload_n hx hb dX5_beginAnew_14 rfl (lv_at hl 0 rfl) ?_
  refine lv_iconst (v := 2) hx hb dX5_beginAnew_15 (by decide) ?_
  refine lv_icmp_ge (tgt := 32) hx hb dX5_beginAnew_16 (by decide) (fun c18 => ?_) (fun c18 => absurd c18 (by decide))
  refine lv_iconst (v := 0) hx hb dX5_beginAnew_32 (by decide) ?_
  refine lv_istore_n (lv' := [(1, .int 0), (0, .ref xa)]) hx hb dX5_beginAnew_33 rfl hl (by decide) rfl (fun ls hl => ?_)
  refine lv_iload_n hx hb dX5_beginAnew_34 rfl (lv_at hl 0 rfl) ?_
  refine lv_iconst (v := 3) hx hb dX5_beginAnew_35 (by decide) ?_
  refine lv_icmp_ge (tgt := 54) hx hb dX5_beginAnew_36 (by decide) (fun c19 => absurd c19 (by decide)) (fun c19 => ?_)
  refine lv_aload_n hx hb dX5_beginAnew_39 rfl (lv_at hl 1 rfl) ?_
  refine va_get (D := D) (ci := 5) (v := .ref xh) (C := RX5) (T := TX5) (N := 11) hx hb hts w0 hown hK hP 0 rfl rfl 8 (by decide) w4 (fun _ h9 => h9) rfl dX5_beginAnew_40 ?_
  refine lv_iload_n hx hb dX5_beginAnew_43 rfl (lv_at hl 0 rfl) ?_
  refine va_aldq hx hb hK hP 10 5 rfl rfl (show iok 0 3 by decide) dX5_beginAnew_44 ?_
  refine W.eq (g2 := F0 m 45 ls (.ref h0a :: [])) rfl ?_
  obtain ⟨⟨o20, o21, o22, o23⟩, hc24, hf⟩ := bd_inv hf
  refine xcV (As := []) (rest := []) (ws' := [(xa, .inr (5, [.ref ta, .ref fa, .ref da, .ref na, .ref ga, .ref xp, .ref xs, .ref xi, .ref xh, .int np, .int 0])), (na, .inr (2, [.ref nla, .ref nua, .ref nn, .int o4])), (nla, .inr (1, [.int o5, .int o6, .int o7, .int o8, .int o9, .ref nlb, .ref nlc])), (nlb, .inl (cF, 6, .inr (.inr (.inl o1)))), (nlc, .inl (cF, 6, .inr (.inr (.inl nlsb)))), (nua, .inr (1, [.int o10, .int o11, .int o12, .int o13, .int o14, .ref nub, .ref nuc])), (nub, .inl (cF, 6, .inr (.inr (.inl o2)))), (nuc, .inl (cF, 6, .inr (.inr (.inl nusb)))), (nn, .inl (cI, 3, .inl o3)), (xi, .inl (cZ, 2, .inl (upd (upd ist 0 (vp_nar .boolean 0)) 1 (vp_nar .boolean 0)))), (xh, .inl (cS, 3, .inr (.inr (.inr (.inr (fun j => ([h0a, h1a, h2a] : List Nat)[j]?)))))), (h0a, .inr (3, [.int o21, .int o22, .int o23, .ref h0b])), (h0b, .inl (cI, 8, .inl o20)), (h1a, .inr (3, [.int h1ms, .int h1mf, .int h1pl, .ref h1b])), (h1b, .inl (cI, 8, .inl h1mk)), (h2a, .inr (3, [.int h2ms, .int h2mf, .int h2pl, .ref h2b])), (h2b, .inl (cI, 8, .inl h2mk))]) ⟨hx, hb, hml, hown, hts⟩ (c_X3_remove l D B adK adV cC cF cI cZ cM cS h0a h0ms h0mf h0pl h0b h0mk  (o20, o21, o22, o23) hc24) (cwV 0 hts gX5_beginAnew_X3_remove rfl rfl rfl (by decide +kernel) ⟨Nat.le_of_ble_eq_true rfl, Nat.le_of_ble_eq_true rfl⟩) (va_recv hK hP (ci := 3) (q0 := 11) rfl rfl) hK hP hD hS hB hE [11, 12] rfl rfl rfl rfl rfl hl.1 rfl (Nat.le_of_ble_eq_true rfl) dX5_beginAnew_45 ⟨Nat.le_of_ble_eq_true rfl, Nat.le_of_ble_eq_true rfl⟩ (fun H locs hP hD hS => ?_)
  refine W.eq (g2 := F0 m 48 ls []) rfl ?_
  refine lv_iinc (v := 1) (lv' := [(1, .int 1), (0, .ref xa)]) hx hb dX5_beginAnew_48 hl (k := 0) rfl (by decide) (by decide) rfl (fun ls hl => ?_)
  refine lv_goto (tgt := 34) hx hb dX5_beginAnew_51 (by decide) ?_
  refine lv_iload_n hx hb dX5_beginAnew_34 rfl (lv_at hl 0 rfl) ?_
  refine lv_iconst (v := 3) hx hb dX5_beginAnew_35 (by decide) ?_
  refine lv_icmp_ge (tgt := 54) hx hb dX5_beginAnew_36 (by decide) (fun c25 => absurd c25 (by decide)) (fun c25 => ?_)
  refine lv_aload_n hx hb dX5_beginAnew_39 rfl (lv_at hl 1 rfl) ?_
  refine va_get (D := D) (ci := 5) (v := .ref xh) (C := RX5) (T := TX5) (N := 11) hx hb hts w0 hown hK hP 0 rfl rfl 8 (by decide) w4 (fun _ h9 => h9) rfl dX5_beginAnew_40 ?_
  refine lv_iload_n hx hb dX5_beginAnew_43 rfl (lv_at hl 0 rfl) ?_
  refine va_aldq hx hb hK hP 10 5 rfl rfl (show iok 1 3 by decide) dX5_beginAnew_44 ?_
  refine W.eq (g2 := F0 m 45 ls (.ref h1a :: [])) rfl ?_
  obtain ⟨⟨o26, o27, o28, o29⟩, hc30, hf⟩ := bd_inv hf
  refine xcV (As := []) (rest := []) (ws' := [(xa, .inr (5, [.ref ta, .ref fa, .ref da, .ref na, .ref ga, .ref xp, .ref xs, .ref xi, .ref xh, .int np, .int 0])), (na, .inr (2, [.ref nla, .ref nua, .ref nn, .int o4])), (nla, .inr (1, [.int o5, .int o6, .int o7, .int o8, .int o9, .ref nlb, .ref nlc])), (nlb, .inl (cF, 6, .inr (.inr (.inl o1)))), (nlc, .inl (cF, 6, .inr (.inr (.inl nlsb)))), (nua, .inr (1, [.int o10, .int o11, .int o12, .int o13, .int o14, .ref nub, .ref nuc])), (nub, .inl (cF, 6, .inr (.inr (.inl o2)))), (nuc, .inl (cF, 6, .inr (.inr (.inl nusb)))), (nn, .inl (cI, 3, .inl o3)), (xi, .inl (cZ, 2, .inl (upd (upd ist 0 (vp_nar .boolean 0)) 1 (vp_nar .boolean 0)))), (xh, .inl (cS, 3, .inr (.inr (.inr (.inr (fun j => ([h0a, h1a, h2a] : List Nat)[j]?)))))), (h0a, .inr (3, [.int o21, .int o22, .int o23, .ref h0b])), (h0b, .inl (cI, 8, .inl o20)), (h1a, .inr (3, [.int o27, .int o28, .int o29, .ref h1b])), (h1b, .inl (cI, 8, .inl o26)), (h2a, .inr (3, [.int h2ms, .int h2mf, .int h2pl, .ref h2b])), (h2b, .inl (cI, 8, .inl h2mk))]) ⟨hx, hb, hml, hown, hts⟩ (c_X3_remove l D B adK adV cC cF cI cZ cM cS h1a h1ms h1mf h1pl h1b h1mk  (o26, o27, o28, o29) hc30) (cwV 0 hts gX5_beginAnew_X3_remove rfl rfl rfl (by decide +kernel) ⟨Nat.le_of_ble_eq_true rfl, Nat.le_of_ble_eq_true rfl⟩) (va_recv hK hP (ci := 3) (q0 := 13) rfl rfl) hK hP hD hS hB hE [13, 14] rfl rfl rfl rfl rfl hl.1 rfl (Nat.le_of_ble_eq_true rfl) dX5_beginAnew_45 ⟨Nat.le_of_ble_eq_true rfl, Nat.le_of_ble_eq_true rfl⟩ (fun H locs hP hD hS => ?_)
  refine W.eq (g2 := F0 m 48 ls []) rfl ?_
  refine lv_iinc (v := 2) (lv' := [(1, .int 2), (0, .ref xa)]) hx hb dX5_beginAnew_48 hl (k := 0) rfl (by decide) (by decide) rfl (fun ls hl => ?_)
  refine lv_goto (tgt := 34) hx hb dX5_beginAnew_51 (by decide) ?_
  refine lv_iload_n hx hb dX5_beginAnew_34 rfl (lv_at hl 0 rfl) ?_
  refine lv_iconst (v := 3) hx hb dX5_beginAnew_35 (by decide) ?_
  refine lv_icmp_ge (tgt := 54) hx hb dX5_beginAnew_36 (by decide) (fun c31 => absurd c31 (by decide)) (fun c31 => ?_)
  refine lv_aload_n hx hb dX5_beginAnew_39 rfl (lv_at hl 1 rfl) ?_
  refine va_get (D := D) (ci := 5) (v := .ref xh) (C := RX5) (T := TX5) (N := 11) hx hb hts w0 hown hK hP 0 rfl rfl 8 (by decide) w4 (fun _ h9 => h9) rfl dX5_beginAnew_40 ?_
  refine lv_iload_n hx hb dX5_beginAnew_43 rfl (lv_at hl 0 rfl) ?_
  refine va_aldq hx hb hK hP 10 5 rfl rfl (show iok 2 3 by decide) dX5_beginAnew_44 ?_
  refine W.eq (g2 := F0 m 45 ls (.ref h2a :: [])) rfl ?_
  obtain ⟨⟨o32, o33, o34, o35⟩, hc36, hf⟩ := bd_inv hf
  refine xcV (As := []) (rest := []) (ws' := [(xa, .inr (5, [.ref ta, .ref fa, .ref da, .ref na, .ref ga, .ref xp, .ref xs, .ref xi, .ref xh, .int np, .int 0])), (na, .inr (2, [.ref nla, .ref nua, .ref nn, .int o4])), (nla, .inr (1, [.int o5, .int o6, .int o7, .int o8, .int o9, .ref nlb, .ref nlc])), (nlb, .inl (cF, 6, .inr (.inr (.inl o1)))), (nlc, .inl (cF, 6, .inr (.inr (.inl nlsb)))), (nua, .inr (1, [.int o10, .int o11, .int o12, .int o13, .int o14, .ref nub, .ref nuc])), (nub, .inl (cF, 6, .inr (.inr (.inl o2)))), (nuc, .inl (cF, 6, .inr (.inr (.inl nusb)))), (nn, .inl (cI, 3, .inl o3)), (xi, .inl (cZ, 2, .inl (upd (upd ist 0 (vp_nar .boolean 0)) 1 (vp_nar .boolean 0)))), (xh, .inl (cS, 3, .inr (.inr (.inr (.inr (fun j => ([h0a, h1a, h2a] : List Nat)[j]?)))))), (h0a, .inr (3, [.int o21, .int o22, .int o23, .ref h0b])), (h0b, .inl (cI, 8, .inl o20)), (h1a, .inr (3, [.int o27, .int o28, .int o29, .ref h1b])), (h1b, .inl (cI, 8, .inl o26)), (h2a, .inr (3, [.int o33, .int o34, .int o35, .ref h2b])), (h2b, .inl (cI, 8, .inl o32))]) ⟨hx, hb, hml, hown, hts⟩ (c_X3_remove l D B adK adV cC cF cI cZ cM cS h2a h2ms h2mf h2pl h2b h2mk  (o32, o33, o34, o35) hc36) (cwV 0 hts gX5_beginAnew_X3_remove rfl rfl rfl (by decide +kernel) ⟨Nat.le_of_ble_eq_true rfl, Nat.le_of_ble_eq_true rfl⟩) (va_recv hK hP (ci := 3) (q0 := 15) rfl rfl) hK hP hD hS hB hE [15, 16] rfl rfl rfl rfl rfl hl.1 rfl (Nat.le_of_ble_eq_true rfl) dX5_beginAnew_45 ⟨Nat.le_of_ble_eq_true rfl, Nat.le_of_ble_eq_true rfl⟩ (fun H locs hP hD hS => ?_)
  refine W.eq (g2 := F0 m 48 ls []) rfl ?_
  refine lv_iinc (v := 3) (lv' := [(1, .int 3), (0, .ref xa)]) hx hb dX5_beginAnew_48 hl (k := 0) rfl (by decide) (by decide) rfl (fun ls hl => ?_)
  refine lv_goto (tgt := 34) hx hb dX5_beginAnew_51 (by decide) ?_
  refine lv_iload_n hx hb dX5_beginAnew_34 rfl (lv_at hl 0 rfl) ?_
  refine lv_iconst (v := 3) hx hb dX5_beginAnew_35 (by decide) ?_
  refine lv_icmp_ge (tgt := 54) hx hb dX5_beginAnew_36 (by decide) (fun c37 => ?_) (fun c37 => absurd c37 (by decide))
  have h1 := Option.some.inj hf
  subst h1
  rw [hQ]
  exact W.vret hx hb hr (fun t ht hW => qEnd hP hS ht) hS.2.2 dX5_beginAnew_54
set_option maxRecDepth 100000 in
set_option maxHeartbeats 4000000 in
theorem c_X5_figure (l : Launch) (D : va_G) (B : Nat) (adK adV : Nat → Nat) (cC cF cI cZ cM cS : ClassId) (xa : Nat) (ta : Nat) (fa : Nat) (da : Nat) (na : Nat) (ga : Nat) (xp : Nat) (xs : Nat) (xi : Nat) (xh : Nat) (np : Int32) (un : Int32) (tb : Nat) (tln : Int32) (tcl : Int32) (tts : Int32) (tte : Int32) (tam : Int32) (tc : Nat) (tlt : Nat → Int32) (tsv : Nat → Int32) (fst : Int32) (fb : Nat) (fwy : Int32) (fc : Nat) (fmk : Int32) (fwt : Int32) (fvl : Nat → Int32) (fpt : Nat → Int32) (dst : Int32) (db : Nat) (dwy : Int32) (dc : Nat) (dmk : Int32) (dwt : Int32) (dvl : Nat → Int32) (dpt : Nat → Int32) (nla : Nat) (nua : Nat) (nn : Nat) (ntr : Int32) (nlst : Int32) (nlla : Int32) (nlbw : Int32) (nlbf : Int32) (nlbd : Int32) (nlb : Nat) (nlc : Nat) (nlsh : Nat → UInt32) (nlsb : Nat → UInt32) (nust : Int32) (nula : Int32) (nubw : Int32) (nubf : Int32) (nubd : Int32) (nub : Nat) (nuc : Nat) (nush : Nat → UInt32) (nusb : Nat → UInt32) (nnm : Nat → Int32) (ist : Nat → Int32) (h0a : Nat) (h1a : Nat) (h2a : Nat) (h0ms : Int32) (h0mf : Int32) (h0pl : Int32) (h0b : Nat) (h0mk : Nat → Int32) (h1ms : Int32) (h1mf : Int32) (h1pl : Int32) (h1b : Nat) (h1mk : Nat → Int32) (h2ms : Int32) (h2mf : Int32) (h2pl : Int32) (h2b : Nat) (h2mk : Nat → Int32) (zz : Int32 × (Nat → Int32) × (Nat → Int32) × (Nat → Int32) × (Nat → Int32) × (Nat → Int32) × (Nat → UInt32) × (Nat → UInt32) × (Nat → Int32) × (Nat → Int32) × (Nat → Int32) × (Nat → Int32) × (Nat → Int32) × Int32 × Int32 × Int32 × Int32 × Int32 × Int32 × Int32 × Int32 × Int32 × Int32 × Int32 × Int32 × Int32 × Int32 × Int32 × Int32 × Int32 × Int32 × Int32 × Int32 × Int32 × Int32 × Int32 × Int32 × Int32 × Int32 × Int32 × Int32 × Int32 × Int32 × Int32 × Int32 × Int32 × Int32) (hf : f_X5_figure un tln tam tlt tsv fst fwy fmk fwt fvl fpt dvl dpt ntr nlst nlla nlbw nlbf nlbd nlsh nust nula nubw nubf nubd nush nnm ist h0ms h0mf h0pl h0mk h1ms h1mf h1pl h1mk h2ms h2mf h2pl h2mk = some zz) : Ct l yX5_figure wsX5_figure { frames := 9, cells := 0, slots := 0, locals := 194 } D B adK adV (tysX cC cF cI cZ cM cS) [.ref xa] [(xa, .inr (5, [.ref ta, .ref fa, .ref da, .ref na, .ref ga, .ref xp, .ref xs, .ref xi, .ref xh, .int np, .int un])), (ta, .inr (4, [.ref tb, .int tln, .int tcl, .int tts, .int tte, .int tam, .ref tc])), (tb, .inl (cC, 200, .inl tlt)), (tc, .inl (cI, 4, .inl tsv)), (fa, .inr (0, [.int fst, .ref fb, .int fwy, .ref fc, .int fmk, .int fwt])), (fb, .inl (cI, 24, .inl fvl)), (fc, .inl (cI, 84, .inl fpt)), (da, .inr (0, [.int dst, .ref db, .int dwy, .ref dc, .int dmk, .int dwt])), (db, .inl (cI, 24, .inl dvl)), (dc, .inl (cI, 84, .inl dpt)), (na, .inr (2, [.ref nla, .ref nua, .ref nn, .int ntr])), (nla, .inr (1, [.int nlst, .int nlla, .int nlbw, .int nlbf, .int nlbd, .ref nlb, .ref nlc])), (nlb, .inl (cF, 6, .inr (.inr (.inl nlsh)))), (nlc, .inl (cF, 6, .inr (.inr (.inl nlsb)))), (nua, .inr (1, [.int nust, .int nula, .int nubw, .int nubf, .int nubd, .ref nub, .ref nuc])), (nub, .inl (cF, 6, .inr (.inr (.inl nush)))), (nuc, .inl (cF, 6, .inr (.inr (.inl nusb)))), (nn, .inl (cI, 3, .inl nnm)), (xi, .inl (cZ, 2, .inl ist)), (xh, .inl (cS, 3, .inr (.inr (.inr (.inr (fun j => ([h0a, h1a, h2a] : List Nat)[j]?)))))), (h0a, .inr (3, [.int h0ms, .int h0mf, .int h0pl, .ref h0b])), (h0b, .inl (cI, 8, .inl h0mk)), (h1a, .inr (3, [.int h1ms, .int h1mf, .int h1pl, .ref h1b])), (h1b, .inl (cI, 8, .inl h1mk)), (h2a, .inr (3, [.int h2ms, .int h2mf, .int h2pl, .ref h2b])), (h2b, .inl (cI, 8, .inl h2mk))] [(xa, .inr (5, [.ref ta, .ref fa, .ref da, .ref na, .ref ga, .ref xp, .ref xs, .ref xi, .ref xh, .int np, .int zz.2.2.2.2.2.2.2.2.2.2.2.2.2.1])), (ta, .inr (4, [.ref tb, .int zz.2.2.2.2.2.2.2.2.2.2.2.2.2.2.1, .int zz.2.2.2.2.2.2.2.2.2.2.2.2.2.2.2.1, .int zz.2.2.2.2.2.2.2.2.2.2.2.2.2.2.2.2.1, .int zz.2.2.2.2.2.2.2.2.2.2.2.2.2.2.2.2.2.1, .int zz.2.2.2.2.2.2.2.2.2.2.2.2.2.2.2.2.2.2.1, .ref tc])), (tb, .inl (cC, 200, .inl tlt)), (tc, .inl (cI, 4, .inl zz.2.1)), (fa, .inr (0, [.int zz.2.2.2.2.2.2.2.2.2.2.2.2.2.2.2.2.2.2.2.1, .ref fb, .int zz.2.2.2.2.2.2.2.2.2.2.2.2.2.2.2.2.2.2.2.2.1, .ref fc, .int zz.2.2.2.2.2.2.2.2.2.2.2.2.2.2.2.2.2.2.2.2.2.1, .int zz.2.2.2.2.2.2.2.2.2.2.2.2.2.2.2.2.2.2.2.2.2.2.1])), (fb, .inl (cI, 24, .inl zz.2.2.1)), (fc, .inl (cI, 84, .inl zz.2.2.2.1)), (da, .inr (0, [.int zz.2.2.2.2.2.2.2.2.2.2.2.2.2.2.2.2.2.2.2.2.2.2.2.1, .ref db, .int zz.2.2.2.2.2.2.2.2.2.2.2.2.2.2.2.2.2.2.2.2.2.2.2.2.1, .ref dc, .int zz.2.2.2.2.2.2.2.2.2.2.2.2.2.2.2.2.2.2.2.2.2.2.2.2.2.1, .int zz.2.2.2.2.2.2.2.2.2.2.2.2.2.2.2.2.2.2.2.2.2.2.2.2.2.2.1])), (db, .inl (cI, 24, .inl zz.2.2.2.2.1)), (dc, .inl (cI, 84, .inl zz.2.2.2.2.2.1)), (na, .inr (2, [.ref nla, .ref nua, .ref nn, .int zz.2.2.2.2.2.2.2.2.2.2.2.2.2.2.2.2.2.2.2.2.2.2.2.2.2.2.2.1])), (nla, .inr (1, [.int zz.2.2.2.2.2.2.2.2.2.2.2.2.2.2.2.2.2.2.2.2.2.2.2.2.2.2.2.2.1, .int zz.2.2.2.2.2.2.2.2.2.2.2.2.2.2.2.2.2.2.2.2.2.2.2.2.2.2.2.2.2.1, .int zz.2.2.2.2.2.2.2.2.2.2.2.2.2.2.2.2.2.2.2.2.2.2.2.2.2.2.2.2.2.2.1, .int zz.2.2.2.2.2.2.2.2.2.2.2.2.2.2.2.2.2.2.2.2.2.2.2.2.2.2.2.2.2.2.2.1, .int zz.2.2.2.2.2.2.2.2.2.2.2.2.2.2.2.2.2.2.2.2.2.2.2.2.2.2.2.2.2.2.2.2.1, .ref nlb, .ref nlc])), (nlb, .inl (cF, 6, .inr (.inr (.inl zz.2.2.2.2.2.2.1)))), (nlc, .inl (cF, 6, .inr (.inr (.inl nlsb)))), (nua, .inr (1, [.int zz.2.2.2.2.2.2.2.2.2.2.2.2.2.2.2.2.2.2.2.2.2.2.2.2.2.2.2.2.2.2.2.2.2.1, .int zz.2.2.2.2.2.2.2.2.2.2.2.2.2.2.2.2.2.2.2.2.2.2.2.2.2.2.2.2.2.2.2.2.2.2.1, .int zz.2.2.2.2.2.2.2.2.2.2.2.2.2.2.2.2.2.2.2.2.2.2.2.2.2.2.2.2.2.2.2.2.2.2.2.1, .int zz.2.2.2.2.2.2.2.2.2.2.2.2.2.2.2.2.2.2.2.2.2.2.2.2.2.2.2.2.2.2.2.2.2.2.2.2.1, .int zz.2.2.2.2.2.2.2.2.2.2.2.2.2.2.2.2.2.2.2.2.2.2.2.2.2.2.2.2.2.2.2.2.2.2.2.2.2.1, .ref nub, .ref nuc])), (nub, .inl (cF, 6, .inr (.inr (.inl zz.2.2.2.2.2.2.2.1)))), (nuc, .inl (cF, 6, .inr (.inr (.inl nusb)))), (nn, .inl (cI, 3, .inl zz.2.2.2.2.2.2.2.2.1)), (xi, .inl (cZ, 2, .inl zz.2.2.2.2.2.2.2.2.2.1)), (xh, .inl (cS, 3, .inr (.inr (.inr (.inr (fun j => ([h0a, h1a, h2a] : List Nat)[j]?)))))), (h0a, .inr (3, [.int zz.2.2.2.2.2.2.2.2.2.2.2.2.2.2.2.2.2.2.2.2.2.2.2.2.2.2.2.2.2.2.2.2.2.2.2.2.2.2.1, .int zz.2.2.2.2.2.2.2.2.2.2.2.2.2.2.2.2.2.2.2.2.2.2.2.2.2.2.2.2.2.2.2.2.2.2.2.2.2.2.2.1, .int zz.2.2.2.2.2.2.2.2.2.2.2.2.2.2.2.2.2.2.2.2.2.2.2.2.2.2.2.2.2.2.2.2.2.2.2.2.2.2.2.2.1, .ref h0b])), (h0b, .inl (cI, 8, .inl zz.2.2.2.2.2.2.2.2.2.2.1)), (h1a, .inr (3, [.int zz.2.2.2.2.2.2.2.2.2.2.2.2.2.2.2.2.2.2.2.2.2.2.2.2.2.2.2.2.2.2.2.2.2.2.2.2.2.2.2.2.2.1, .int zz.2.2.2.2.2.2.2.2.2.2.2.2.2.2.2.2.2.2.2.2.2.2.2.2.2.2.2.2.2.2.2.2.2.2.2.2.2.2.2.2.2.2.1, .int zz.2.2.2.2.2.2.2.2.2.2.2.2.2.2.2.2.2.2.2.2.2.2.2.2.2.2.2.2.2.2.2.2.2.2.2.2.2.2.2.2.2.2.2.1, .ref h1b])), (h1b, .inl (cI, 8, .inl zz.2.2.2.2.2.2.2.2.2.2.2.1)), (h2a, .inr (3, [.int zz.2.2.2.2.2.2.2.2.2.2.2.2.2.2.2.2.2.2.2.2.2.2.2.2.2.2.2.2.2.2.2.2.2.2.2.2.2.2.2.2.2.2.2.2.1, .int zz.2.2.2.2.2.2.2.2.2.2.2.2.2.2.2.2.2.2.2.2.2.2.2.2.2.2.2.2.2.2.2.2.2.2.2.2.2.2.2.2.2.2.2.2.2.1, .int zz.2.2.2.2.2.2.2.2.2.2.2.2.2.2.2.2.2.2.2.2.2.2.2.2.2.2.2.2.2.2.2.2.2.2.2.2.2.2.2.2.2.2.2.2.2.2, .ref h2b])), (h2b, .inl (cI, 8, .inl zz.2.2.2.2.2.2.2.2.2.2.2.2.1))] (some (.int zz.1)) := by
  refine Ct.ofW (cc := cX5_figure) (maxL := 1) (ret := (some .int)) (by decide) rfl (Nat.le_of_ble_eq_true rfl) ?_
  intro p e s m args below meth c hx hb hr hml hts hown hlocks hnm hK hE A Q hQ hB H locs ls hP hD hS hl
  have hl : lv_has ls 1 [(0, .ref xa)] := hl
  have w0 : ∀ w ∈ u_ws RX5 TX5 11, w ∈ wsX5_figure := by decide +kernel
  have w1 := hts (.fieldLink RX5 23 "MotionStates" "draft" "LMotionStates$Figure;") (by decide +kernel)
  have w2 := hts (.fieldLink RX5 19 "MotionStates" "told" "LMotionStates$Figure;") (by decide +kernel)
  have w3 := hts (.fieldLink RX5 10 "MotionStates" "text" "LMotionStates$Text;") (by decide +kernel)
  have w4 : ∀ w ∈ u_ws RX4 TX4 7, w ∈ wsX5_figure := by decide +kernel
  have w5 : (Cond.fieldLinkNest "MotionStates" 54 "MotionStates$Text" "length" "I" "MotionStates").before args s = true := va_Nw.use rfl (hE.1 ("MotionStates", 54, "MotionStates$Text", "length", "I", "MotionStates") (by decide +kernel))
  have w6 : (Cond.fieldLinkNest "MotionStates" 73 "MotionStates$Text" "clauses" "I" "MotionStates").before args s = true := va_Nw.use rfl (hE.1 ("MotionStates", 73, "MotionStates$Text", "clauses", "I", "MotionStates") (by decide +kernel))
  unfold f_X5_figure at hf
  refine lv_aload_n hx hb dX5_figure_0 rfl (lv_at hl 0 rfl) ?_
  refine va_get (D := D) (ci := 5) (v := .ref da) (C := RX5) (T := TX5) (N := 11) hx hb hts w0 hown hK hP 0 rfl rfl 2 (by decide) w1 (fun _ h9 => h9) rfl dX5_figure_1 ?_
  refine lv_aload_n hx hb dX5_figure_4 rfl (lv_at hl 0 rfl) ?_
  refine va_get (D := D) (ci := 5) (v := .ref fa) (C := RX5) (T := TX5) (N := 11) hx hb hts w0 hown hK hP 0 rfl rfl 1 (by decide) w2 (fun _ h9 => h9) rfl dX5_figure_5 ?_
  obtain ⟨⟨o1, o2, o3, o4, o5, o6⟩, hc7, hf⟩ := bd_inv hf
  refine xcV (As := [.ref fa]) (rest := []) (ws' := [(xa, .inr (5, [.ref ta, .ref fa, .ref da, .ref na, .ref ga, .ref xp, .ref xs, .ref xi, .ref xh, .int np, .int un])), (ta, .inr (4, [.ref tb, .int tln, .int tcl, .int tts, .int tte, .int tam, .ref tc])), (tb, .inl (cC, 200, .inl tlt)), (tc, .inl (cI, 4, .inl tsv)), (fa, .inr (0, [.int fst, .ref fb, .int fwy, .ref fc, .int fmk, .int fwt])), (fb, .inl (cI, 24, .inl fvl)), (fc, .inl (cI, 84, .inl fpt)), (da, .inr (0, [.int o3, .ref db, .int o4, .ref dc, .int o5, .int o6])), (db, .inl (cI, 24, .inl o1)), (dc, .inl (cI, 84, .inl o2)), (na, .inr (2, [.ref nla, .ref nua, .ref nn, .int ntr])), (nla, .inr (1, [.int nlst, .int nlla, .int nlbw, .int nlbf, .int nlbd, .ref nlb, .ref nlc])), (nlb, .inl (cF, 6, .inr (.inr (.inl nlsh)))), (nlc, .inl (cF, 6, .inr (.inr (.inl nlsb)))), (nua, .inr (1, [.int nust, .int nula, .int nubw, .int nubf, .int nubd, .ref nub, .ref nuc])), (nub, .inl (cF, 6, .inr (.inr (.inl nush)))), (nuc, .inl (cF, 6, .inr (.inr (.inl nusb)))), (nn, .inl (cI, 3, .inl nnm)), (xi, .inl (cZ, 2, .inl ist)), (xh, .inl (cS, 3, .inr (.inr (.inr (.inr (fun j => ([h0a, h1a, h2a] : List Nat)[j]?)))))), (h0a, .inr (3, [.int h0ms, .int h0mf, .int h0pl, .ref h0b])), (h0b, .inl (cI, 8, .inl h0mk)), (h1a, .inr (3, [.int h1ms, .int h1mf, .int h1pl, .ref h1b])), (h1b, .inl (cI, 8, .inl h1mk)), (h2a, .inr (3, [.int h2ms, .int h2mf, .int h2pl, .ref h2b])), (h2b, .inl (cI, 8, .inl h2mk))]) ⟨hx, hb, hml, hown, hts⟩ (c_X0_copyFrom l D B adK adV cC cF cI cZ cM cS da dst db dwy dc dmk dwt dvl dpt fa fst fb fwy fc fmk fwt fvl fpt  (o1, o2, o3, o4, o5, o6) hc7) (cwV 1 hts gX5_figure_X0_copyFrom rfl rfl rfl (by decide +kernel) ⟨Nat.le_of_ble_eq_true rfl, Nat.le_of_ble_eq_true rfl⟩) (va_recv hK hP (ci := 0) (q0 := 7) rfl rfl) hK hP hD hS hB hE [7, 8, 9, 4, 5, 6] rfl rfl rfl rfl rfl hl.1 rfl (Nat.le_of_ble_eq_true rfl) dX5_figure_8 ⟨Nat.le_of_ble_eq_true rfl, Nat.le_of_ble_eq_true rfl⟩ (fun H locs hP hD hS => ?_)
  refine W.eq (g2 := F0 m 11 ls []) rfl ?_
  refine lv_aload_n hx hb dX5_figure_11 rfl (lv_at hl 0 rfl) ?_
  refine va_get (D := D) (ci := 5) (v := .ref ta) (C := RX5) (T := TX5) (N := 11) hx hb hts w0 hown hK hP 0 rfl rfl 0 (by decide) w3 (fun _ h9 => h9) rfl dX5_figure_12 ?_
  refine lv_aload_n hx hb dX5_figure_15 rfl (lv_at hl 0 rfl) ?_
  refine va_get (D := D) (ci := 5) (v := .ref da) (C := RX5) (T := TX5) (N := 11) hx hb hts w0 hown hK hP 0 rfl rfl 2 (by decide) w1 (fun _ h9 => h9) rfl dX5_figure_16 ?_
  obtain ⟨⟨r8, o9, o10, o11, o12, o13, o14, o15, o16, o17, o18, o19⟩, hc20, hf⟩ := bd_inv hf
  refine xcV (As := [.ref da]) (rest := []) (ws' := [(xa, .inr (5, [.ref ta, .ref fa, .ref da, .ref na, .ref ga, .ref xp, .ref xs, .ref xi, .ref xh, .int np, .int un])), (ta, .inr (4, [.ref tb, .int tln, .int o12, .int o13, .int o14, .int o15, .ref tc])), (tb, .inl (cC, 200, .inl tlt)), (tc, .inl (cI, 4, .inl o9)), (fa, .inr (0, [.int fst, .ref fb, .int fwy, .ref fc, .int fmk, .int fwt])), (fb, .inl (cI, 24, .inl fvl)), (fc, .inl (cI, 84, .inl fpt)), (da, .inr (0, [.int o16, .ref db, .int o17, .ref dc, .int o18, .int o19])), (db, .inl (cI, 24, .inl o10)), (dc, .inl (cI, 84, .inl o11)), (na, .inr (2, [.ref nla, .ref nua, .ref nn, .int ntr])), (nla, .inr (1, [.int nlst, .int nlla, .int nlbw, .int nlbf, .int nlbd, .ref nlb, .ref nlc])), (nlb, .inl (cF, 6, .inr (.inr (.inl nlsh)))), (nlc, .inl (cF, 6, .inr (.inr (.inl nlsb)))), (nua, .inr (1, [.int nust, .int nula, .int nubw, .int nubf, .int nubd, .ref nub, .ref nuc])), (nub, .inl (cF, 6, .inr (.inr (.inl nush)))), (nuc, .inl (cF, 6, .inr (.inr (.inl nusb)))), (nn, .inl (cI, 3, .inl nnm)), (xi, .inl (cZ, 2, .inl ist)), (xh, .inl (cS, 3, .inr (.inr (.inr (.inr (fun j => ([h0a, h1a, h2a] : List Nat)[j]?)))))), (h0a, .inr (3, [.int h0ms, .int h0mf, .int h0pl, .ref h0b])), (h0b, .inl (cI, 8, .inl h0mk)), (h1a, .inr (3, [.int h1ms, .int h1mf, .int h1pl, .ref h1b])), (h1b, .inl (cI, 8, .inl h1mk)), (h2a, .inr (3, [.int h2ms, .int h2mf, .int h2pl, .ref h2b])), (h2b, .inl (cI, 8, .inl h2mk))]) ⟨hx, hb, hml, hown, hts⟩ (c_X4_readOnto l D B adK adV cC cF cI cZ cM cS ta tb tln tcl tts tte tam tc tlt tsv da o3 db o4 dc o5 o6 o1 o2  (r8, o9, o10, o11, o12, o13, o14, o15, o16, o17, o18, o19) hc20) (cwV 1 hts gX5_figure_X4_readOnto rfl rfl rfl (by decide +kernel) ⟨Nat.le_of_ble_eq_true rfl, Nat.le_of_ble_eq_true rfl⟩) (va_recv hK hP (ci := 4) (q0 := 1) rfl rfl) hK hP hD hS hB hE [1, 2, 3, 7, 8, 9] rfl rfl rfl rfl rfl hl.1 rfl (Nat.le_of_ble_eq_true rfl) dX5_figure_19 ⟨Nat.le_of_ble_eq_true rfl, Nat.le_of_ble_eq_true rfl⟩ (fun H locs hP hD hS => ?_)
  refine W.eq (g2 := F0 m 22 ls [.int r8]) rfl ?_
  refine lv_iconst (v := (-1)) hx hb dX5_figure_22 (by decide) ?_
  refine lv_icmp_eq (tgt := 29) hx hb dX5_figure_23 (by decide) (fun c21 => ?_) (fun c21 => ?_)
  · have hf := if_p c21 hf
    refine lv_aload_n hx hb dX5_figure_29 rfl (lv_at hl 0 rfl) ?_
    refine va_get (D := D) (ci := 5) (v := .ref fa) (C := RX5) (T := TX5) (N := 11) hx hb hts w0 hown hK hP 0 rfl rfl 1 (by decide) w2 (fun _ h9 => h9) rfl dX5_figure_30 ?_
    refine lv_aload_n hx hb dX5_figure_33 rfl (lv_at hl 0 rfl) ?_
    refine va_get (D := D) (ci := 5) (v := .ref da) (C := RX5) (T := TX5) (N := 11) hx hb hts w0 hown hK hP 0 rfl rfl 2 (by decide) w1 (fun _ h9 => h9) rfl dX5_figure_34 ?_
    obtain ⟨⟨o22, o23, o24, o25, o26, o27⟩, hc28, hf⟩ := bd_inv hf
    refine xcV (As := [.ref da]) (rest := []) (ws' := [(xa, .inr (5, [.ref ta, .ref fa, .ref da, .ref na, .ref ga, .ref xp, .ref xs, .ref xi, .ref xh, .int np, .int un])), (ta, .inr (4, [.ref tb, .int tln, .int o12, .int o13, .int o14, .int o15, .ref tc])), (tb, .inl (cC, 200, .inl tlt)), (tc, .inl (cI, 4, .inl o9)), (fa, .inr (0, [.int o24, .ref fb, .int o25, .ref fc, .int o26, .int o27])), (fb, .inl (cI, 24, .inl o22)), (fc, .inl (cI, 84, .inl o23)), (da, .inr (0, [.int o16, .ref db, .int o17, .ref dc, .int o18, .int o19])), (db, .inl (cI, 24, .inl o10)), (dc, .inl (cI, 84, .inl o11)), (na, .inr (2, [.ref nla, .ref nua, .ref nn, .int ntr])), (nla, .inr (1, [.int nlst, .int nlla, .int nlbw, .int nlbf, .int nlbd, .ref nlb, .ref nlc])), (nlb, .inl (cF, 6, .inr (.inr (.inl nlsh)))), (nlc, .inl (cF, 6, .inr (.inr (.inl nlsb)))), (nua, .inr (1, [.int nust, .int nula, .int nubw, .int nubf, .int nubd, .ref nub, .ref nuc])), (nub, .inl (cF, 6, .inr (.inr (.inl nush)))), (nuc, .inl (cF, 6, .inr (.inr (.inl nusb)))), (nn, .inl (cI, 3, .inl nnm)), (xi, .inl (cZ, 2, .inl ist)), (xh, .inl (cS, 3, .inr (.inr (.inr (.inr (fun j => ([h0a, h1a, h2a] : List Nat)[j]?)))))), (h0a, .inr (3, [.int h0ms, .int h0mf, .int h0pl, .ref h0b])), (h0b, .inl (cI, 8, .inl h0mk)), (h1a, .inr (3, [.int h1ms, .int h1mf, .int h1pl, .ref h1b])), (h1b, .inl (cI, 8, .inl h1mk)), (h2a, .inr (3, [.int h2ms, .int h2mf, .int h2pl, .ref h2b])), (h2b, .inl (cI, 8, .inl h2mk))]) ⟨hx, hb, hml, hown, hts⟩ (c_X0_copyFrom l D B adK adV cC cF cI cZ cM cS fa fst fb fwy fc fmk fwt fvl fpt da o16 db o17 dc o18 o19 o10 o11  (o22, o23, o24, o25, o26, o27) hc28) (cwV 1 hts gX5_figure_X0_copyFrom rfl rfl rfl (by decide +kernel) ⟨Nat.le_of_ble_eq_true rfl, Nat.le_of_ble_eq_true rfl⟩) (va_recv hK hP (ci := 0) (q0 := 4) rfl rfl) hK hP hD hS hB hE [4, 5, 6, 7, 8, 9] rfl rfl rfl rfl rfl hl.1 rfl (Nat.le_of_ble_eq_true rfl) dX5_figure_37 ⟨Nat.le_of_ble_eq_true rfl, Nat.le_of_ble_eq_true rfl⟩ (fun H locs hP hD hS => ?_)
    refine W.eq (g2 := F0 m 40 ls []) rfl ?_
    refine lv_aload_n hx hb dX5_figure_40 rfl (lv_at hl 0 rfl) ?_
    refine va_get (D := D) (ci := 5) (v := .ref ta) (C := RX5) (T := TX5) (N := 11) hx hb hts w0 hown hK hP 0 rfl rfl 0 (by decide) w3 (fun _ h9 => h9) rfl dX5_figure_41 ?_
    refine lv_iconst (v := 0) hx hb dX5_figure_44 (by decide) ?_
    refine va_putN (D := D) (ci := 4) (v := .int 0) (ty := .int) (C := RX4) (T := TX4) (N := 7) hx hb hts w4 tyX4 tyX4_ok nmX4 hown hK hP hD hS 1 rfl rfl 1 (by decide) w5 (fun _ h9 => h9) rfl (by decide +kernel) rfl rfl (Nat.le_of_ble_eq_true rfl) dX5_figure_45 (fun H locs hP hD hS => ?_)
    have hP : va_P D vwCl [(xa, .inr (5, [.ref ta, .ref fa, .ref da, .ref na, .ref ga, .ref xp, .ref xs, .ref xi, .ref xh, .int np, .int un])), (ta, .inr (4, [.ref tb, .int 0, .int o12, .int o13, .int o14, .int o15, .ref tc])), (tb, .inl (cC, 200, .inl tlt)), (tc, .inl (cI, 4, .inl o9)), (fa, .inr (0, [.int o24, .ref fb, .int o25, .ref fc, .int o26, .int o27])), (fb, .inl (cI, 24, .inl o22)), (fc, .inl (cI, 84, .inl o23)), (da, .inr (0, [.int o16, .ref db, .int o17, .ref dc, .int o18, .int o19])), (db, .inl (cI, 24, .inl o10)), (dc, .inl (cI, 84, .inl o11)), (na, .inr (2, [.ref nla, .ref nua, .ref nn, .int ntr])), (nla, .inr (1, [.int nlst, .int nlla, .int nlbw, .int nlbf, .int nlbd, .ref nlb, .ref nlc])), (nlb, .inl (cF, 6, .inr (.inr (.inl nlsh)))), (nlc, .inl (cF, 6, .inr (.inr (.inl nlsb)))), (nua, .inr (1, [.int nust, .int nula, .int nubw, .int nubf, .int nubd, .ref nub, .ref nuc])), (nub, .inl (cF, 6, .inr (.inr (.inl nush)))), (nuc, .inl (cF, 6, .inr (.inr (.inl nusb)))), (nn, .inl (cI, 3, .inl nnm)), (xi, .inl (cZ, 2, .inl ist)), (xh, .inl (cS, 3, .inr (.inr (.inr (.inr (fun j => ([h0a, h1a, h2a] : List Nat)[j]?)))))), (h0a, .inr (3, [.int h0ms, .int h0mf, .int h0pl, .ref h0b])), (h0b, .inl (cI, 8, .inl h0mk)), (h1a, .inr (3, [.int h1ms, .int h1mf, .int h1pl, .ref h1b])), (h1b, .inl (cI, 8, .inl h1mk)), (h2a, .inr (3, [.int h2ms, .int h2mf, .int h2pl, .ref h2b])), (h2b, .inl (cI, 8, .inl h2mk))] H := hP
    have hD : va_D A [(xa, .inr (5, [.ref ta, .ref fa, .ref da, .ref na, .ref ga, .ref xp, .ref xs, .ref xi, .ref xh, .int np, .int un])), (ta, .inr (4, [.ref tb, .int 0, .int o12, .int o13, .int o14, .int o15, .ref tc])), (tb, .inl (cC, 200, .inl tlt)), (tc, .inl (cI, 4, .inl o9)), (fa, .inr (0, [.int o24, .ref fb, .int o25, .ref fc, .int o26, .int o27])), (fb, .inl (cI, 24, .inl o22)), (fc, .inl (cI, 84, .inl o23)), (da, .inr (0, [.int o16, .ref db, .int o17, .ref dc, .int o18, .int o19])), (db, .inl (cI, 24, .inl o10)), (dc, .inl (cI, 84, .inl o11)), (na, .inr (2, [.ref nla, .ref nua, .ref nn, .int ntr])), (nla, .inr (1, [.int nlst, .int nlla, .int nlbw, .int nlbf, .int nlbd, .ref nlb, .ref nlc])), (nlb, .inl (cF, 6, .inr (.inr (.inl nlsh)))), (nlc, .inl (cF, 6, .inr (.inr (.inl nlsb)))), (nua, .inr (1, [.int nust, .int nula, .int nubw, .int nubf, .int nubd, .ref nub, .ref nuc])), (nub, .inl (cF, 6, .inr (.inr (.inl nush)))), (nuc, .inl (cF, 6, .inr (.inr (.inl nusb)))), (nn, .inl (cI, 3, .inl nnm)), (xi, .inl (cZ, 2, .inl ist)), (xh, .inl (cS, 3, .inr (.inr (.inr (.inr (fun j => ([h0a, h1a, h2a] : List Nat)[j]?)))))), (h0a, .inr (3, [.int h0ms, .int h0mf, .int h0pl, .ref h0b])), (h0b, .inl (cI, 8, .inl h0mk)), (h1a, .inr (3, [.int h1ms, .int h1mf, .int h1pl, .ref h1b])), (h1b, .inl (cI, 8, .inl h1mk)), (h2a, .inr (3, [.int h2ms, .int h2mf, .int h2pl, .ref h2b])), (h2b, .inl (cI, 8, .inl h2mk))] := hD
    refine lv_aload_n hx hb dX5_figure_48 rfl (lv_at hl 0 rfl) ?_
    obtain ⟨⟨o29, o30, o31, o32, o33, o34, o35, o36, o37, o38, o39, o40, o41, o42, o43, o44, o45, o46, o47, o48, o49, o50, o51, o52, o53, o54, o55, o56⟩, hc57, hf⟩ := bd_inv hf
    refine xcV (As := []) (rest := []) (ws' := [(xa, .inr (5, [.ref ta, .ref fa, .ref da, .ref na, .ref ga, .ref xp, .ref xs, .ref xi, .ref xh, .int np, .int o36])), (ta, .inr (4, [.ref tb, .int 0, .int o12, .int o13, .int o14, .int o15, .ref tc])), (tb, .inl (cC, 200, .inl tlt)), (tc, .inl (cI, 4, .inl o9)), (fa, .inr (0, [.int o24, .ref fb, .int o25, .ref fc, .int o26, .int o27])), (fb, .inl (cI, 24, .inl o22)), (fc, .inl (cI, 84, .inl o23)), (da, .inr (0, [.int o16, .ref db, .int o17, .ref dc, .int o18, .int o19])), (db, .inl (cI, 24, .inl o10)), (dc, .inl (cI, 84, .inl o11)), (na, .inr (2, [.ref nla, .ref nua, .ref nn, .int o37])), (nla, .inr (1, [.int o38, .int o39, .int o40, .int o41, .int o42, .ref nlb, .ref nlc])), (nlb, .inl (cF, 6, .inr (.inr (.inl o29)))), (nlc, .inl (cF, 6, .inr (.inr (.inl nlsb)))), (nua, .inr (1, [.int o43, .int o44, .int o45, .int o46, .int o47, .ref nub, .ref nuc])), (nub, .inl (cF, 6, .inr (.inr (.inl o30)))), (nuc, .inl (cF, 6, .inr (.inr (.inl nusb)))), (nn, .inl (cI, 3, .inl o31)), (xi, .inl (cZ, 2, .inl o32)), (xh, .inl (cS, 3, .inr (.inr (.inr (.inr (fun j => ([h0a, h1a, h2a] : List Nat)[j]?)))))), (h0a, .inr (3, [.int o48, .int o49, .int o50, .ref h0b])), (h0b, .inl (cI, 8, .inl o33)), (h1a, .inr (3, [.int o51, .int o52, .int o53, .ref h1b])), (h1b, .inl (cI, 8, .inl o34)), (h2a, .inr (3, [.int o54, .int o55, .int o56, .ref h2b])), (h2b, .inl (cI, 8, .inl o35))]) ⟨hx, hb, hml, hown, hts⟩ (c_X5_beginAnew l D B adK adV cC cF cI cZ cM cS xa ta fa da na ga xp xs xi xh np un nla nua nn ntr nlst nlla nlbw nlbf nlbd nlb nlc nlsh nlsb nust nula nubw nubf nubd nub nuc nush nusb nnm ist h0a h1a h2a h0ms h0mf h0pl h0b h0mk h1ms h1mf h1pl h1b h1mk h2ms h2mf h2pl h2b h2mk  (o29, o30, o31, o32, o33, o34, o35, o36, o37, o38, o39, o40, o41, o42, o43, o44, o45, o46, o47, o48, o49, o50, o51, o52, o53, o54, o55, o56) hc57) (cwV 0 hts gX5_figure_X5_beginAnew rfl rfl rfl (by decide +kernel) ⟨Nat.le_of_ble_eq_true rfl, Nat.le_of_ble_eq_true rfl⟩) (va_recv hK hP (ci := 5) (q0 := 0) rfl rfl) hK hP hD hS hB hE [0, 10, 11, 12, 13, 14, 15, 16, 17, 18, 19, 20, 21, 22, 23, 24, 25] rfl rfl rfl rfl rfl hl.1 rfl (Nat.le_of_ble_eq_true rfl) dX5_figure_49 ⟨Nat.le_of_ble_eq_true rfl, Nat.le_of_ble_eq_true rfl⟩ (fun H locs hP hD hS => ?_)
    refine W.eq (g2 := F0 m 52 ls []) rfl ?_
    refine lv_aload_n hx hb dX5_figure_52 rfl (lv_at hl 0 rfl) ?_
    refine va_get (D := D) (ci := 5) (v := .ref ta) (C := RX5) (T := TX5) (N := 11) hx hb hts w0 hown hK hP 0 rfl rfl 0 (by decide) w3 (fun _ h9 => h9) rfl dX5_figure_53 ?_
    refine va_getN (D := D) (ci := 4) (v := .int o12) (C := RX4) (T := TX4) (N := 7) hx hb hts w4 hown hK hP 1 rfl rfl 2 (by decide) w6 (fun _ h9 => h9) rfl dX5_figure_56 ?_
    have h1 := Option.some.inj hf
    subst h1
    rw [hQ]
    exact W.iret (v := o12) hx hb hr (fun t ht hW => qEnd hP hS ht) hS.2.2 dX5_figure_59
  · have hf := if_n c21 hf
    refine lv_bipush (v := (-4)) hx hb dX5_figure_26 (by decide) ?_
    have h1 := Option.some.inj hf
    subst h1
    rw [hQ]
    exact W.iret (v := (-4)) hx hb hr (fun t ht hW => qEnd hP hS ht) hS.2.2 dX5_figure_28
set_option maxRecDepth 100000 in
set_option maxHeartbeats 4000000 in
theorem c_X5_things (l : Launch) (D : va_G) (B : Nat) (adK adV : Nat → Nat) (cC cF cI cZ cM cS : ClassId) (xa : Nat) (ta : Nat) (fa : Nat) (da : Nat) (na : Nat) (ga : Nat) (xp : Nat) (xs : Nat) (xi : Nat) (xh : Nat) (np : Int32) (un : Int32) (h0a : Nat) (h1a : Nat) (h2a : Nat) (h0ms : Int32) (h0mf : Int32) (h0pl : Int32) (h0b : Nat) (h0mk : Nat → Int32) (h1ms : Int32) (h1mf : Int32) (h1pl : Int32) (h1b : Nat) (h1mk : Nat → Int32) (h2ms : Int32) (h2mf : Int32) (h2pl : Int32) (h2b : Nat) (h2mk : Nat → Int32) (zz : Int32) (hf : f_X5_things h0pl h0mk h1pl h1mk h2pl h2mk = some zz) : Ct l yX5_things wsX5_things { frames := 1, cells := 0, slots := 0, locals := 22 } D B adK adV (tysX cC cF cI cZ cM cS) [.ref xa] [(xa, .inr (5, [.ref ta, .ref fa, .ref da, .ref na, .ref ga, .ref xp, .ref xs, .ref xi, .ref xh, .int np, .int un])), (xh, .inl (cS, 3, .inr (.inr (.inr (.inr (fun j => ([h0a, h1a, h2a] : List Nat)[j]?)))))), (h0a, .inr (3, [.int h0ms, .int h0mf, .int h0pl, .ref h0b])), (h0b, .inl (cI, 8, .inl h0mk)), (h1a, .inr (3, [.int h1ms, .int h1mf, .int h1pl, .ref h1b])), (h1b, .inl (cI, 8, .inl h1mk)), (h2a, .inr (3, [.int h2ms, .int h2mf, .int h2pl, .ref h2b])), (h2b, .inl (cI, 8, .inl h2mk))] [(xa, .inr (5, [.ref ta, .ref fa, .ref da, .ref na, .ref ga, .ref xp, .ref xs, .ref xi, .ref xh, .int np, .int un])), (xh, .inl (cS, 3, .inr (.inr (.inr (.inr (fun j => ([h0a, h1a, h2a] : List Nat)[j]?)))))), (h0a, .inr (3, [.int h0ms, .int h0mf, .int h0pl, .ref h0b])), (h0b, .inl (cI, 8, .inl h0mk)), (h1a, .inr (3, [.int h1ms, .int h1mf, .int h1pl, .ref h1b])), (h1b, .inl (cI, 8, .inl h1mk)), (h2a, .inr (3, [.int h2ms, .int h2mf, .int h2pl, .ref h2b])), (h2b, .inl (cI, 8, .inl h2mk))] (some (.int zz)) := by
  refine Ct.ofW (cc := cX5_things) (maxL := 3) (ret := (some .int)) (by decide) rfl (Nat.le_of_ble_eq_true rfl) ?_
  intro p e s m args below meth c hx hb hr hml hts hown hlocks hnm hK hE A Q hQ hB H locs ls hP hD hS hl
  have hl : lv_has ls 3 [(0, .ref xa)] := hl
  have w0 : ∀ w ∈ u_ws RX5 TX5 11, w ∈ wsX5_things := by decide +kernel
  have w1 := hts (.fieldLink RX5 49 "MotionStates" "shelves" "[LMotionStates$Shelf;") (by decide +kernel)
  unfold f_X5_things at hf
  refine lv_iconst (v := 0) hx hb dX5_things_0 (by decide) ?_
  refine lv_istore_n (lv' := [(1, .int 0), (0, .ref xa)]) hx hb dX5_things_1 rfl hl (by decide) rfl (fun ls hl => ?_)
  refine lv_iconst (v := 0) hx hb dX5_things_2 (by decide) ?_
  refine lv_istore_n (lv' := [(2, .int 0), (1, .int 0), (0, .ref xa)]) hx hb dX5_things_3 rfl hl (by decide) rfl (fun ls hl => ?_)
  refine lv_iload_n hx hb dX5_things_4 rfl (lv_at hl 0 rfl) ?_
  refine lv_iconst (v := 3) hx hb dX5_things_5 (by decide) ?_
  refine lv_icmp_ge (tgt := 27) hx hb dX5_things_6 (by decide) (fun c1 => absurd c1 (by decide)) (fun c1 => ?_)
  refine lv_iload_n hx hb dX5_things_9 rfl (lv_at hl 1 rfl) ?_
  refine lv_aload_n hx hb dX5_things_10 rfl (lv_at hl 2 rfl) ?_
  refine va_get (D := D) (ci := 5) (v := .ref xh) (C := RX5) (T := TX5) (N := 11) hx hb hts w0 hown hK hP 0 rfl rfl 8 (by decide) w1 (fun _ h9 => h9) rfl dX5_things_11 ?_
  refine lv_iload_n hx hb dX5_things_14 rfl (lv_at hl 0 rfl) ?_
  refine va_aldq hx hb hK hP 1 5 rfl rfl (show iok 0 3 by decide) dX5_things_15 ?_
  refine W.eq (g2 := F0 m 16 ls (.ref h0a :: .int 0 :: [])) rfl ?_
  obtain ⟨r2, hc3, hf⟩ := bd_inv hf
  refine xcV (As := []) (rest := [.int 0]) (ws' := [(xa, .inr (5, [.ref ta, .ref fa, .ref da, .ref na, .ref ga, .ref xp, .ref xs, .ref xi, .ref xh, .int np, .int un])), (xh, .inl (cS, 3, .inr (.inr (.inr (.inr (fun j => ([h0a, h1a, h2a] : List Nat)[j]?)))))), (h0a, .inr (3, [.int h0ms, .int h0mf, .int h0pl, .ref h0b])), (h0b, .inl (cI, 8, .inl h0mk)), (h1a, .inr (3, [.int h1ms, .int h1mf, .int h1pl, .ref h1b])), (h1b, .inl (cI, 8, .inl h1mk)), (h2a, .inr (3, [.int h2ms, .int h2mf, .int h2pl, .ref h2b])), (h2b, .inl (cI, 8, .inl h2mk))]) ⟨hx, hb, hml, hown, hts⟩ (c_X3_things l D B adK adV cC cF cI cZ cM cS h0a h0ms h0mf h0pl h0b h0mk  r2 hc3) (cwV 0 hts gX5_things_X3_things rfl rfl rfl (by decide +kernel) ⟨Nat.le_of_ble_eq_true rfl, Nat.le_of_ble_eq_true rfl⟩) (va_recv hK hP (ci := 3) (q0 := 2) rfl rfl) hK hP hD hS hB hE [2, 3] rfl rfl rfl rfl rfl hl.1 rfl (Nat.le_of_ble_eq_true rfl) dX5_things_16 ⟨Nat.le_of_ble_eq_true rfl, Nat.le_of_ble_eq_true rfl⟩ (fun H locs hP hD hS => ?_)
  refine W.eq (g2 := F0 m 19 ls [.int r2, .int 0]) rfl ?_
  refine lv_iadd hx hb dX5_things_19 ?_
  refine lv_istore_n (lv' := [(1, .int ((0 : Int32) + r2)), (2, .int 0), (0, .ref xa)]) hx hb dX5_things_20 rfl hl (by decide) rfl (fun ls hl => ?_)
  refine lv_iinc (v := 1) (lv' := [(2, .int 1), (1, .int ((0 : Int32) + r2)), (0, .ref xa)]) hx hb dX5_things_21 hl (k := 1) rfl (by decide) (by decide) rfl (fun ls hl => ?_)
  refine lv_goto (tgt := 4) hx hb dX5_things_24 (by decide) ?_
  refine lv_iload_n hx hb dX5_things_4 rfl (lv_at hl 0 rfl) ?_
  refine lv_iconst (v := 3) hx hb dX5_things_5 (by decide) ?_
  refine lv_icmp_ge (tgt := 27) hx hb dX5_things_6 (by decide) (fun c4 => absurd c4 (by decide)) (fun c4 => ?_)
  refine lv_iload_n hx hb dX5_things_9 rfl (lv_at hl 1 rfl) ?_
  refine lv_aload_n hx hb dX5_things_10 rfl (lv_at hl 2 rfl) ?_
  refine va_get (D := D) (ci := 5) (v := .ref xh) (C := RX5) (T := TX5) (N := 11) hx hb hts w0 hown hK hP 0 rfl rfl 8 (by decide) w1 (fun _ h9 => h9) rfl dX5_things_11 ?_
  refine lv_iload_n hx hb dX5_things_14 rfl (lv_at hl 0 rfl) ?_
  refine va_aldq hx hb hK hP 1 5 rfl rfl (show iok 1 3 by decide) dX5_things_15 ?_
  refine W.eq (g2 := F0 m 16 ls (.ref h1a :: .int ((0 : Int32) + r2) :: [])) rfl ?_
  obtain ⟨r5, hc6, hf⟩ := bd_inv hf
  refine xcV (As := []) (rest := [.int ((0 : Int32) + r2)]) (ws' := [(xa, .inr (5, [.ref ta, .ref fa, .ref da, .ref na, .ref ga, .ref xp, .ref xs, .ref xi, .ref xh, .int np, .int un])), (xh, .inl (cS, 3, .inr (.inr (.inr (.inr (fun j => ([h0a, h1a, h2a] : List Nat)[j]?)))))), (h0a, .inr (3, [.int h0ms, .int h0mf, .int h0pl, .ref h0b])), (h0b, .inl (cI, 8, .inl h0mk)), (h1a, .inr (3, [.int h1ms, .int h1mf, .int h1pl, .ref h1b])), (h1b, .inl (cI, 8, .inl h1mk)), (h2a, .inr (3, [.int h2ms, .int h2mf, .int h2pl, .ref h2b])), (h2b, .inl (cI, 8, .inl h2mk))]) ⟨hx, hb, hml, hown, hts⟩ (c_X3_things l D B adK adV cC cF cI cZ cM cS h1a h1ms h1mf h1pl h1b h1mk  r5 hc6) (cwV 0 hts gX5_things_X3_things rfl rfl rfl (by decide +kernel) ⟨Nat.le_of_ble_eq_true rfl, Nat.le_of_ble_eq_true rfl⟩) (va_recv hK hP (ci := 3) (q0 := 4) rfl rfl) hK hP hD hS hB hE [4, 5] rfl rfl rfl rfl rfl hl.1 rfl (Nat.le_of_ble_eq_true rfl) dX5_things_16 ⟨Nat.le_of_ble_eq_true rfl, Nat.le_of_ble_eq_true rfl⟩ (fun H locs hP hD hS => ?_)
  refine W.eq (g2 := F0 m 19 ls [.int r5, .int ((0 : Int32) + r2)]) rfl ?_
  refine lv_iadd hx hb dX5_things_19 ?_
  refine lv_istore_n (lv' := [(1, .int (((0 : Int32) + r2) + r5)), (2, .int 1), (0, .ref xa)]) hx hb dX5_things_20 rfl hl (by decide) rfl (fun ls hl => ?_)
  refine lv_iinc (v := 2) (lv' := [(2, .int 2), (1, .int (((0 : Int32) + r2) + r5)), (0, .ref xa)]) hx hb dX5_things_21 hl (k := 1) rfl (by decide) (by decide) rfl (fun ls hl => ?_)
  refine lv_goto (tgt := 4) hx hb dX5_things_24 (by decide) ?_
  refine lv_iload_n hx hb dX5_things_4 rfl (lv_at hl 0 rfl) ?_
  refine lv_iconst (v := 3) hx hb dX5_things_5 (by decide) ?_
  refine lv_icmp_ge (tgt := 27) hx hb dX5_things_6 (by decide) (fun c7 => absurd c7 (by decide)) (fun c7 => ?_)
  refine lv_iload_n hx hb dX5_things_9 rfl (lv_at hl 1 rfl) ?_
  refine lv_aload_n hx hb dX5_things_10 rfl (lv_at hl 2 rfl) ?_
  refine va_get (D := D) (ci := 5) (v := .ref xh) (C := RX5) (T := TX5) (N := 11) hx hb hts w0 hown hK hP 0 rfl rfl 8 (by decide) w1 (fun _ h9 => h9) rfl dX5_things_11 ?_
  refine lv_iload_n hx hb dX5_things_14 rfl (lv_at hl 0 rfl) ?_
  refine va_aldq hx hb hK hP 1 5 rfl rfl (show iok 2 3 by decide) dX5_things_15 ?_
  refine W.eq (g2 := F0 m 16 ls (.ref h2a :: .int (((0 : Int32) + r2) + r5) :: [])) rfl ?_
  obtain ⟨r8, hc9, hf⟩ := bd_inv hf
  refine xcV (As := []) (rest := [.int (((0 : Int32) + r2) + r5)]) (ws' := [(xa, .inr (5, [.ref ta, .ref fa, .ref da, .ref na, .ref ga, .ref xp, .ref xs, .ref xi, .ref xh, .int np, .int un])), (xh, .inl (cS, 3, .inr (.inr (.inr (.inr (fun j => ([h0a, h1a, h2a] : List Nat)[j]?)))))), (h0a, .inr (3, [.int h0ms, .int h0mf, .int h0pl, .ref h0b])), (h0b, .inl (cI, 8, .inl h0mk)), (h1a, .inr (3, [.int h1ms, .int h1mf, .int h1pl, .ref h1b])), (h1b, .inl (cI, 8, .inl h1mk)), (h2a, .inr (3, [.int h2ms, .int h2mf, .int h2pl, .ref h2b])), (h2b, .inl (cI, 8, .inl h2mk))]) ⟨hx, hb, hml, hown, hts⟩ (c_X3_things l D B adK adV cC cF cI cZ cM cS h2a h2ms h2mf h2pl h2b h2mk  r8 hc9) (cwV 0 hts gX5_things_X3_things rfl rfl rfl (by decide +kernel) ⟨Nat.le_of_ble_eq_true rfl, Nat.le_of_ble_eq_true rfl⟩) (va_recv hK hP (ci := 3) (q0 := 6) rfl rfl) hK hP hD hS hB hE [6, 7] rfl rfl rfl rfl rfl hl.1 rfl (Nat.le_of_ble_eq_true rfl) dX5_things_16 ⟨Nat.le_of_ble_eq_true rfl, Nat.le_of_ble_eq_true rfl⟩ (fun H locs hP hD hS => ?_)
  refine W.eq (g2 := F0 m 19 ls [.int r8, .int (((0 : Int32) + r2) + r5)]) rfl ?_
  refine lv_iadd hx hb dX5_things_19 ?_
  refine lv_istore_n (lv' := [(1, .int ((((0 : Int32) + r2) + r5) + r8)), (2, .int 2), (0, .ref xa)]) hx hb dX5_things_20 rfl hl (by decide) rfl (fun ls hl => ?_)
  refine lv_iinc (v := 3) (lv' := [(2, .int 3), (1, .int ((((0 : Int32) + r2) + r5) + r8)), (0, .ref xa)]) hx hb dX5_things_21 hl (k := 1) rfl (by decide) (by decide) rfl (fun ls hl => ?_)
  refine lv_goto (tgt := 4) hx hb dX5_things_24 (by decide) ?_
  refine lv_iload_n hx hb dX5_things_4 rfl (lv_at hl 0 rfl) ?_
  refine lv_iconst (v := 3) hx hb dX5_things_5 (by decide) ?_
  refine lv_icmp_ge (tgt := 27) hx hb dX5_things_6 (by decide) (fun c10 => ?_) (fun c10 => absurd c10 (by decide))
  refine lv_iload_n hx hb dX5_things_27 rfl (lv_at hl 1 rfl) ?_
  have h1 := Option.some.inj hf
  subst h1
  rw [hQ]
  exact W.iret (v := ((((0 : Int32) + r2) + r5) + r8)) hx hb hr (fun t ht hW => qEnd hP hS ht) hS.2.2 dX5_things_28
