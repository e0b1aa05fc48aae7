/-! a function put into the table, abstract -/
/-- a function put in its place -/
def insL (D : Nat) (w : Nat → Nat) : List (Nat → Nat) → List (Nat → Nat)
  | [] => [w]
  | x :: l => if lxR w x D 0 = nI 1 then x :: insL D w l else if lxR w x D 0 = nI 0 then x :: l else w :: x :: l
/-- how many it lies behind -/
def insP (D : Nat) (w : Nat → Nat) : List (Nat → Nat) → Nat
  | [] => 0
  | x :: l => if lxR w x D 0 = nI 1 then insP D w l + 1 else 0
theorem insP_le (D : Nat) (w : Nat → Nat) : ∀ l, insP D w l ≤ l.length
  | [] => Nat.le_refl _
  | x :: l => by
    have := insP_le D w l
    rw [insP]
    split
    · rw [List.length_cons]; omega
    · exact Nat.zero_le _
def fnAt (l : List (Nat → Nat)) (i : Nat) : Nat → Nat := l.getD i (fun _ => 0)
theorem insP_lt (D : Nat) (w : Nat → Nat) : ∀ (l : List (Nat → Nat)) (i : Nat), i < insP D w l → lxR w (fnAt l i) D 0 = nI 1
  | [], i, h => by simp [insP] at h
  | x :: l, i, h => by
    rw [insP] at h
    split at h
    · next c =>
      cases i with
      | zero => exact c
      | succ i => exact insP_lt D w l i (by omega)
    · omega
theorem insP_at (D : Nat) (w : Nat → Nat) : ∀ (l : List (Nat → Nat)), insP D w l < l.length → ¬ lxR w (fnAt l (insP D w l)) D 0 = nI 1
  | [], h => by simp [insP] at h
  | x :: l, h => by
    rw [insP] at h ⊢
    split
    · next c =>
      rw [if_pos c] at h
      exact insP_at D w l (by simpa using h)
    · next c => exact c
theorem insL_eq (D : Nat) (w : Nat → Nat) : ∀ (l : List (Nat → Nat)), insL D w l = if insP D w l < l.length ∧ lxR w (fnAt l (insP D w l)) D 0 = nI 0 then l else l.take (insP D w l) ++ w :: l.drop (insP D w l)
  | [] => by simp [insL, insP]
  | x :: l => by
    have ih := insL_eq D w l
    rw [insL, insP]
    by_cases c : lxR w x D 0 = nI 1
    · rw [if_pos c, if_pos c, ih]
      by_cases d : insP D w l < l.length ∧ lxR w (fnAt l (insP D w l)) D 0 = nI 0
      · rw [if_pos d, if_pos ⟨by rw [List.length_cons]; omega, d.2⟩]
      · rw [if_neg d, if_neg (fun z => d ⟨by have := z.1; rw [List.length_cons] at this; omega, z.2⟩)]
        rfl
    · rw [if_neg c, if_neg c]
      by_cases d : lxR w x D 0 = nI 0
      · rw [if_pos d, if_pos ⟨by rw [List.length_cons]; omega, d⟩]
      · rw [if_neg d, if_neg (fun z => d z.2)]
        rfl
