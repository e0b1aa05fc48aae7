/-! what a judge found is what the reference finds -/
theorem rkL_F (n0 D : Nat) (S : Nat → Nat → Nat) (V : Nat → Nat) (g : Nat) : ∀ n, rkL n0 D S V g (n + 1) = rkF n0 D S V g (n + 1) := by
  intro n
  induction n with
  | zero =>
    rw [rkL_s, rkF_0]
    show rkK n0 D S V 0 D (rkP n0 D (eqG g) (fun _ _ => 0, fun _ => false, 0)) = _
    generalize rkP n0 D (eqG g) (fun _ _ => 0, fun _ => false, 0) = s
    have : ∀ b, rkK n0 D S V 0 b s = s := fun b => by
      induction b with
      | zero => exact rkK_0 _ _ _ _ _ _
      | succ b ih => rw [rkK_s _ _ _ _ _ (Nat.zero_le _), ih, rkJ, if_neg (fun z => absurd z.1 (by omega))]
    exact this D
  | succ n ih =>
    rw [rkL_s, rkF_s _ _ _ _ _ (by omega), ih]
    exact xff_congr (fun o x h1 h2 => by
      show rkJ n0 D S V (n + 1) o x = rkS n0 D S V (n + 1) o x
      rw [rkJ, rkS]
      by_cases cc : V (n + 1) + V o = V (S (n + 1) o)
      · rw [if_pos ⟨by omega, cc⟩, if_pos cc]
      · rw [if_neg (fun z => cc z.2), if_neg cc])
theorem syP_iff (V : Nat → Nat) (S : Nat → Nat → Nat) (g a b : Nat) : syP V S g a b = true ↔ (S a b = g → V a + V b = V g) := by
  rw [syP]
  by_cases c1 : S a b = g
  · by_cases c2 : V a + V b = V g
    · simp [c1, c2]
    · simp [c1, c2]
  · simp [c1]
theorem syI_iff (V : Nat → Nat) (S : Nat → Nat → Nat) (g e : Nat) (t : Bool) : ∀ k, syI V S g e (e + k) t = true ↔ (t = true ∧ ∀ o, e ≤ o → o < e + k → (S e o = g → V e + V o = V g)) := by
  intro k
  induction k with
  | zero => rw [Nat.add_zero, syI_0]; exact ⟨fun h => ⟨h, fun o h1 h2 => absurd h2 (by omega)⟩, fun h => h.1⟩
  | succ k ih =>
    rw [← Nat.add_assoc, syI_s _ _ _ _ (Nat.le_add_right _ _), Bool.and_eq_true, ih, syP_iff]
    constructor
    · rintro ⟨⟨h1, h2⟩, h3⟩
      refine ⟨h1, fun o o1 o2 => ?_⟩
      by_cases e1 : o = e + k
      · rw [e1]; exact h3
      · exact h2 o o1 (by omega)
    · rintro ⟨h1, h2⟩
      exact ⟨⟨h1, fun o o1 o2 => h2 o o1 (by omega)⟩, h2 _ (by omega) (by omega)⟩
theorem syJ_iff (V : Nat → Nat) (S : Nat → Nat → Nat) (D g : Nat) : ∀ n, n ≤ D → (syJ V S D g n = true ↔ ∀ a b, a < n → a ≤ b → b < D → (S a b = g → V a + V b = V g)) := by
  intro n
  induction n with
  | zero => intro _; exact ⟨fun _ a b h => absurd h (by omega), fun _ => rfl⟩
  | succ n ih =>
    intro hn
    have si := syI_iff V S g n (syJ V S D g n) (D - n)
    rw [show n + (D - n) = D by omega] at si
    rw [syJ_s, si, ih (by omega)]
    constructor
    · rintro ⟨h1, h2⟩ a b ha hab hb
      by_cases e1 : a = n
      · subst e1; exact h2 b hab hb
      · exact h1 a b (by omega) hab hb
    · intro h
      exact ⟨fun a b ha hab hb => h a b (by omega) hab hb, fun o o1 o2 => h n o (by omega) o1 o2⟩
theorem wo_sp {S : Nat → Nat → Nat} {o e : Nat} : ∀ n, (∃ k, k < n ∧ S k o = e) → S (xfo (fun k i => if S k o = e then k else i) n 0) o = e := by
  intro n
  induction n with
  | zero => rintro ⟨k, hk, _⟩; omega
  | succ n ih =>
    intro h
    show S (if S n o = e then n else xfo (fun k i => if S k o = e then k else i) n 0) o = e
    by_cases cc : S n o = e
    · rw [if_pos cc]; exact cc
    · rw [if_neg cc]
      obtain ⟨k, hk, hs⟩ := h
      exact ih ⟨k, by
        have : k ≠ n := fun z => cc (by rw [← z]; exact hs)
        omega, hs⟩
theorem gl_ex {D : Nat} {S : Nat → Nat → Nat} (hL : gLaw D S) {e g : Nat} (he : e < D) (hg : g < D) : ∃ k, k < D ∧ S k e = g := by
  obtain ⟨k, hk, hs⟩ := hL.2.2.2.2 e he
  refine ⟨S g k, hL.1 g k hg hk, ?_⟩
  rw [hL.2.2.2.1 g k e hg hk he, hs, hL.2.1 g 0, hL.2.2.1 g hg]
theorem syA_iff {V : Nat → Nat} {S : Nat → Nat → Nat} {D g : Nat} (h1 : 0 < D) (hg : g < D) (hb : ∀ e, e < D → V e ≤ 200000) : ∀ n, n ≤ D → (syA (vI V) S D g n = true ↔ ∀ e, e < n → V e + V (xfo (fun k i => if S k e = g then k else i) D 0) = V g) := by
  intro n
  induction n with
  | zero => intro _; exact ⟨fun _ a h => absurd h (by omega), fun _ => rfl⟩
  | succ n ih =>
    intro hn
    have b1 := hb n (by omega)
    have b2 := hb _ (wo_lt S D n g h1 D (Nat.le_refl _))
    have b3 := hb g hg
    have e : xcm .eq (vI V n + vI V (xfo (fun k i => if S k n = g then k else i) D 0)) (vI V g) = decide (V n + V (xfo (fun k i => if S k n = g then k else i) D 0) = V g) := by
      show xcm .eq (nI (V n) + nI (V _)) (nI (V g)) = _
      rw [nI_a, xc_eq (by omega) (by omega)]
    rw [syA_s, Bool.and_eq_true, ih (by omega), e, decide_eq_true_iff]
    constructor
    · rintro ⟨h2, h3⟩ k hk
      by_cases e1 : k = n
      · rw [e1]; exact h3
      · exact h2 k (by omega)
    · intro h
      exact ⟨fun k hk => h k (by omega), h n (by omega)⟩
theorem syJ_A {V : Nat → Nat} {S : Nat → Nat → Nat} {D g : Nat} (hL : gLaw D S) (h1 : 0 < D) (hg : g < D) (hb : ∀ e, e < D → V e ≤ 200000) : syJ V S D g D = syA (vI V) S D g D := by
  rw [Bool.eq_iff_iff, syJ_iff V S D g D (Nat.le_refl _), syA_iff h1 hg hb D (Nat.le_refl _)]
  have wl := fun e => wo_lt S D e g h1 D (Nat.le_refl _)
  have ws := fun e (he : e < D) => wo_sp (S := S) (o := e) (e := g) D (gl_ex hL he hg)
  constructor
  · intro h e he
    by_cases cc : e ≤ xfo (fun k i => if S k e = g then k else i) D 0
    · exact h _ _ he cc (wl e) (by rw [hL.2.1]; exact ws e he)
    · rw [Nat.add_comm]; exact h _ _ (wl e) (by omega) he (ws e he)
  · intro h a b ha hab hbD hs
    have := h a ha
    rw [gl_cancel hL (x := xfo (fun k i => if S k a = g then k else i) D 0) (y := b) (z := a) (wl a) hbD ha (by rw [ws a ha, hL.2.1 b a, hs])] at this
    exact this
