/-! ways to take columns, one after another -/
/-- the next way: times of columns, the first foremost; s is their sum -/
def nxL (mo : Nat) : Nat → List Nat → Option (List Nat)
  | _, [] => none
  | s, a :: l => if s < mo then some ((a + 1) :: l) else match nxL mo (s - a) l with
    | none => none
    | some l' => some (0 :: l')
/-- how the ways go on: how many there are from here, at most so many -/
def wyN (mo : Nat) : Nat → List Nat → Option Nat
  | 0, _ => none
  | n + 1, l => match nxL mo l.sum l with
    | none => some 1
    | some l' => match wyN mo n l' with
      | none => none
      | some k => some (k + 1)
theorem wy_all : ∀ nc : Fin 7, (wyN 8 3100 (List.replicate nc.val 0)).isSome = true ∧ (wyN 6 3100 (List.replicate nc.val 0)).isSome = true := by decide +kernel
theorem nxL_len {mo : Nat} : ∀ (l : List Nat) (s : Nat) (l' : List Nat), nxL mo s l = some l' → l'.length = l.length
  | [], s, l', h => by simp [nxL] at h
  | a :: l, s, l', h => by
    rw [nxL] at h
    split at h
    · cases h; rfl
    · split at h
      · cases h
      · next q hq => cases h; rw [List.length_cons, List.length_cons, nxL_len l _ _ hq]
theorem nxL_sum {mo : Nat} : ∀ (l : List Nat) (l' : List Nat), nxL mo l.sum l = some l' → l.sum ≤ mo → l'.sum ≤ mo
  | [], l', h, _ => by simp [nxL] at h
  | a :: l, l', h, hs => by
    rw [nxL] at h
    split at h
    · cases h; simp at hs ⊢; simp at *; omega
    · have e : (a :: l).sum - a = l.sum := by simp
      rw [e] at h
      split at h
      · cases h
      · next q hq =>
        cases h
        have := nxL_sum l q hq (by simp at hs; omega)
        simpa using this
/-- a way as a row of ints -/
def repT (nc : Nat) (f : Nat → Int32) (l : List Nat) : Prop := l.length = nc ∧ ∀ c, c < nc → f c = nI (l.getD c 0)
theorem nx_sim {mo nc : Nat} (hmo : mo ≤ 8) : ∀ (l : List Nat) (c : Nat) (f : Nat → Int32), c + l.length = nc → l.sum ≤ mo → (∀ j, j < c → f j = nI 0) → (∀ i, i < l.length → f (c + i) = nI (l.getD i 0)) →
    match nxL mo l.sum l with
    | none => (nxR nc (xit (nxS nc (nI mo)) l.length (c, nI l.sum, f))).1 = false
    | some l' => (nxR nc (xit (nxS nc (nI mo)) l.length (c, nI l.sum, f))).1 = true ∧ (nxR nc (xit (nxS nc (nI mo)) l.length (c, nI l.sum, f))).2.1 = nI l'.sum ∧ (∀ j, j < c → (nxR nc (xit (nxS nc (nI mo)) l.length (c, nI l.sum, f))).2.2 j = nI 0) ∧ ∀ i, i < l'.length → (nxR nc (xit (nxS nc (nI mo)) l.length (c, nI l.sum, f))).2.2 (c + i) = nI (l'.getD i 0)
  | [], c, f, hc, hs, hz, hf => by
    have hc : c = nc := by simpa using hc
    subst hc
    show (nxR c (c, nI 0, f)).1 = false
    rw [nxR, if_neg (Nat.lt_irrefl _)]
  | a :: l, c, f, hc, hs, hz, hf => by
    have hs' : a + l.sum ≤ mo := by simpa using hs
    have hcn : c < nc := by simp at hc; omega
    have fa : f c = nI a := by simpa using hf 0 (by simp)
    have esum : (a :: l).sum = a + l.sum := by simp
    by_cases h1 : a + l.sum < mo
    · have e1 : nxL mo (a :: l).sum (a :: l) = some ((a + 1) :: l) := by rw [nxL, if_pos (by rw [esum]; exact h1)]
      have e2 : nxS nc (nI mo) (c, nI (a :: l).sum, f) = none := by
        rw [nxS, if_neg (fun z => z.2 ((nI_ltI (by omega) (by omega)).mpr (by rw [esum]; exact h1)))]
      have e3 : xit (nxS nc (nI mo)) (a :: l).length (c, nI (a :: l).sum, f) = (c, nI (a :: l).sum, f) := by
        rw [List.length_cons]
        simp only [xit, e2]
      rw [e1, e3]
      dsimp only
      rw [nxR, if_pos hcn]
      dsimp only
      refine ⟨rfl, ?_, fun j hj => by rw [xupd_ne (by omega)]; exact hz j hj, fun i hi => ?_⟩
      · rw [nI_a]; simp; congr 1; omega
      · by_cases i0 : i = 0
        · subst i0
          rw [Nat.add_zero, xupd_eq, fa, nI_a]; simp
        · rw [xupd_ne (by omega), hf i (by simpa using hi)]
          obtain ⟨i, rfl⟩ : ∃ k, i = k + 1 := ⟨i - 1, by omega⟩
          rfl
    · have e2 : nxS nc (nI mo) (c, nI (a :: l).sum, f) = some (c + 1, nI l.sum, xupd f c (nI 0)) := by
        have hlt : ¬ nI (a :: l).sum < nI mo := fun z => h1 (by have := (nI_ltI (by omega) (by omega)).mp z; rw [esum] at this; exact this)
        rw [nxS, if_pos ⟨hcn, hlt⟩]
        dsimp only
        rw [fa, esum, pk_sub (by omega), Nat.add_sub_cancel_left]
      have e3 : xit (nxS nc (nI mo)) (a :: l).length (c, nI (a :: l).sum, f) = xit (nxS nc (nI mo)) l.length (c + 1, nI l.sum, xupd f c (nI 0)) := by
        rw [List.length_cons]
        simp only [xit, e2]
      have ih := nx_sim (mo := mo) (nc := nc) hmo l (c + 1) (xupd f c (nI 0)) (by simp at hc; omega) (by omega) (fun j hj => by
        by_cases e : j = c
        · subst e; exact xupd_eq
        · rw [xupd_ne e]; exact hz j (by omega)) (fun i hi => by
        rw [xupd_ne (by omega), show c + 1 + i = c + (i + 1) by omega, hf (i + 1) (by simpa using hi)]
        rfl)
      have e4 : nxL mo (a :: l).sum (a :: l) = match nxL mo l.sum l with
          | none => none
          | some l' => some (0 :: l') := by
        rw [nxL, if_neg (by rw [esum]; exact h1), show (a :: l).sum - a = l.sum by simp]
      rw [e3, e4]
      cases hq : nxL mo l.sum l with
      | none => rw [hq] at ih; exact ih
      | some l' =>
        rw [hq] at ih
        dsimp only at ih ⊢
        obtain ⟨i1, i2, i3, i4⟩ := ih
        refine ⟨i1, by simpa using i2, fun j hj => i3 j (by omega), fun i hi => ?_⟩
        by_cases i0 : i = 0
        · subst i0; rw [Nat.add_zero]; exact i3 c (by omega)
        · obtain ⟨i, rfl⟩ : ∃ k, i = k + 1 := ⟨i - 1, by omega⟩
          rw [show c + (i + 1) = c + 1 + i by omega, i4 i (by simpa using hi)]
          rfl
