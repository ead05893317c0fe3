/-! ===== the frame rule at places that ascend: one pass over the world ===== -/
def vm : Nat → va_W → List Nat → va_W → va_W
  | _, [], _, _ => []
  | k, w :: ws, i :: is, q :: qs => cond (Nat.beq i k) (q :: vm (k + 1) ws is qs) (w :: vm (k + 1) ws (i :: is) (q :: qs))
  | _, w :: ws, _, _ => w :: ws
def asc : Nat → List Nat → Bool
  | _, [] => true
  | k, i :: is => Nat.ble k i && asc (i + 1) is
theorem asc_le : ∀ (is : List Nat) (k k' : Nat), k' ≤ k → asc k is = true → asc k' is = true := by
  intro is
  cases is with
  | nil => intro k k' _ _; rfl
  | cons i is =>
    intro k k' h1 h2
    unfold asc at h2 ⊢
    rw [Bool.and_eq_true] at h2 ⊢
    exact ⟨Nat.ble_eq.mpr (Nat.le_trans h1 (Nat.ble_eq.mp h2.1)), h2.2⟩
theorem vset_out : ∀ (is : List Nat) (qs pre : va_W), asc pre.length is = true → vset pre is qs = pre := by
  intro is
  induction is with
  | nil => intro qs pre _; unfold vset; rfl
  | cons i is ih =>
    intro qs pre h
    cases qs with
    | nil => unfold vset; rfl
    | cons q qs =>
      unfold asc at h
      rw [Bool.and_eq_true] at h
      have hi := Nat.ble_eq.mp h.1
      unfold vset
      rw [List.set_eq_of_length_le hi]
      exact ih qs pre (asc_le is _ _ (by omega) h.2)
theorem vset_vm : ∀ (ws : va_W) (is : List Nat) (qs pre : va_W), asc pre.length is = true → vset (pre ++ ws) is qs = pre ++ vm pre.length ws is qs := by
  intro ws
  induction ws with
  | nil =>
    intro is qs pre h
    unfold vm
    rw [List.append_nil]
    exact vset_out is qs pre h
  | cons w ws ih =>
    intro is qs pre h
    cases is with
    | nil => unfold vset vm; rfl
    | cons i is =>
      cases qs with
      | nil => unfold vset vm; rfl
      | cons q qs =>
        have h0 := h
        unfold asc at h
        rw [Bool.and_eq_true] at h
        have hi := Nat.ble_eq.mp h.1
        unfold vm
        by_cases he : i = pre.length
        · subst he
          rw [show Nat.beq pre.length pre.length = true from Nat.beq_refl _]
          unfold vset
          rw [List.set_append_right _ _ (Nat.le_refl _), Nat.sub_self]
          have := ih is qs (pre ++ [q]) (by rw [List.length_append]; exact h.2)
          rw [List.length_append] at this
          simpa using this
        · rw [show Nat.beq i pre.length = false from by
            cases hb : Nat.beq i pre.length with
            | false => rfl
            | true => exact absurd (Nat.eq_of_beq_eq_true hb) he]
          have := ih (i :: is) (q :: qs) (pre ++ [w]) (by
            rw [List.length_append]
            unfold asc
            rw [Bool.and_eq_true]
            exact ⟨Nat.ble_eq.mpr (by simp only [List.length_cons, List.length_nil]; omega), h.2⟩)
          rw [List.length_append] at this
          simpa using this
theorem Ct.frm {l : Launch} {y : MethodName} {wsy : List Cond} {rm : Room} {D : va_G} {B : Nat} {adK adV : Nat → Nat} {tys : List (ClassId × FieldType)} {av : List Value} {win wout ws ws' : va_W} {rv : Option Value} (h : Ct l y wsy rm D B adK adV tys av win wout rv) (is : List Nat) (hn : va_nd is = true) (ha : asc 0 is = true) (hC : is.map (fun i => ws[i]?) = win.map some) (hl : wout.map Prod.fst = win.map Prod.fst) (hws : vm 0 ws is wout = ws') :
    Ct l y wsy rm D B adK adV tys av ws ws' rv := h.frame is hn hC hl ((vset_vm ws is wout [] ha).trans hws)
