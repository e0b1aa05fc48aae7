/-! the group speaks only of the basis and the right side -/
def e9 (f f' : Nat → Int32) : Prop := ∀ k, k < 9 → f k = f' k
theorem xfo_rl {α : Type} {R : α → α → Prop} {f g : Nat → α → α} : ∀ (n : Nat) (x y : α), (∀ i x y, i < n → R x y → R (f i x) (g i y)) → R x y → R (xfo f n x) (xfo g n y) := by
  intro n
  induction n with
  | zero => intro x y _ h; exact h
  | succ n ih => intro x y hs h; exact hs n _ _ (by omega) (ih x y (fun i x y hi => hs i x y (by omega)) h)
theorem e9_upd {f f' : Nat → Int32} {a : Nat} {x x' : Int32} (h : e9 f f') (hx : x = x') : e9 (xupd f a x) (xupd f' a x') := fun k hk => by
  rw [hx]
  by_cases e : k = a
  · rw [e, xupd_eq, xupd_eq]
  · rw [xupd_ne e, xupd_ne e]; exact h k hk
theorem e9_less {j k : Nat} {t t' : Int32} {f f' : Nat → Int32} (hj : j < 3) (hk : k < 3) (ht : t = t') (h : e9 f f') : e9 (lessA j k t f) (lessA j k t' f') := by
  subst ht
  exact xfo_rl 3 _ _ (fun i x y hi hxy => e9_upd hxy (by rw [hxy _ (by omega), hxy (3 * i + k) (by omega)])) h
theorem e9_exch {j k : Nat} {f f' : Nat → Int32} (hj : j < 3) (hk : k < 3) (h : e9 f f') : e9 (exchA j k f) (exchA j k f') :=
  xfo_rl 3 _ _ (fun i x y hi hxy => e9_upd (e9_upd hxy (hxy _ (by omega))) (hxy _ (by omega))) h
theorem e9_it {i j : Nat} (hi : i < 3) (hj : j < 3) : ∀ (n : Nat) (f f' : Nat → Int32), e9 f f' → e9 (xit (euS i j) n f) (xit (euS i j) n f') := by
  intro n
  induction n with
  | zero => intro f f' h; exact h
  | succ n ih =>
    intro f f' h
    have e := h (3 * i + j) (by omega)
    rw [xit, xit]
    by_cases cz : f (3 * i + j) = 0
    · have cz' : f' (3 * i + j) = 0 := by rw [← e]; exact cz
      rw [euS, if_pos cz, euS, if_pos cz']; exact h
    · have cz' : ¬ f' (3 * i + j) = 0 := by rw [← e]; exact cz
      rw [euS, if_neg cz, euS, if_neg cz']
      exact ih _ _ (e9_exch hi hj (e9_less hi hj (by rw [e, h (3 * i + i) (by omega)]) h))
theorem e9_eu {i j : Nat} {f f' : Nat → Int32} (hi : i < 3) (hj : j < 3) (h : e9 f f') : e9 (euA i j f) (euA i j f') := by
  rw [euA, euA, euM, euM, h (3 * i + j) (by omega)]
  exact e9_it hi hj _ _ _ h
theorem e9_col {i : Nat} {f f' : Nat → Int32} (hi : i < 3) (h : e9 f f') : e9 (colA i f) (colA i f') :=
  xfo_rl (3 - (i + 1)) _ _ (fun k x y hk hxy => e9_eu hi (by omega) hxy) h
theorem e9_sgn {i : Nat} {f f' : Nat → Int32} (hi : i < 3) (h : e9 f f') : e9 (sgnA i f) (sgnA i f') := by
  rw [sgnA, sgnA, h (3 * i + i) (by omega)]
  split
  · exact e9_less hi hi rfl h
  · exact h
theorem e9_red {i : Nat} {f f' : Nat → Int32} (hi : i < 3) (h : e9 f f') : e9 (redB i i f) (redB i i f') :=
  xfo_rl i _ _ (fun k x y hk hxy => e9_less (by omega) hi (by rw [hxy (3 * i + k) (by omega), hxy (3 * i + i) (by omega)]) hxy) h
theorem e9_herm {f f' : Nat → Int32} (h : e9 f f') : e9 (hermA 3 f) (hermA 3 f') :=
  xfo_rl 3 _ _ (fun i x y hi hxy => e9_red hi (e9_sgn hi (e9_col hi hxy))) h
theorem gp_ext {r r' : Nat → Int32} (h : ∀ j, 3 ≤ j → j < 15 → r j = r' j) : szN r = szN r' ∧ sNr r = sNr r' ∧ glN r = glN r' := by
  have hh : e9 (hmR r) (hmR r') := e9_herm (fun k hk => h (3 + k) (by omega) (by omega))
  have a0 : gA r = gA r' := by rw [gA, gA, hh 0 (by omega)]
  have a1 : gB r = gB r' := by rw [gB, gB, hh 4 (by omega)]
  have a2 : gC r = gC r' := by rw [gC, gC, hh 8 (by omega)]
  have a3 : gP r = gP r' := by rw [gP, gP, hh 3 (by omega)]
  have a4 : gQ r = gQ r' := by rw [gQ, gQ, hh 6 (by omega)]
  have a5 : gR r = gR r' := by rw [gR, gR, hh 7 (by omega)]
  have zz : ∀ j, 3 ≤ j → j < 15 → zi r j = zi r' j := fun j h1 h2 => by rw [zi, zi, h j h1 h2]
  refine ⟨?_, ?_, ?_⟩
  · have : detZ (zi r) = detZ (zi r') := by
      simp only [detZ, cofZ, Nat.reduceAdd, Nat.reduceMul, Nat.reduceMod]
      rw [zz 3 (by omega) (by omega), zz 4 (by omega) (by omega), zz 5 (by omega) (by omega), zz 6 (by omega) (by omega), zz 7 (by omega) (by omega), zz 8 (by omega) (by omega), zz 9 (by omega) (by omega), zz 10 (by omega) (by omega), zz 11 (by omega) (by omega)]
    rw [szN, szN, this]
  · funext e o
    rw [sNr, sNr, a0, a1, a2, a3, a4, a5]
  · rw [glN, glN, elN, elN, a0, a1, a2, a3, a4, a5, h 12 (by omega) (by omega), h 13 (by omega) (by omega), h 14 (by omega) (by omega)]
