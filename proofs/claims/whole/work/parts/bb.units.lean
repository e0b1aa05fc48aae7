/-! units of rows that are not there weigh nothing -/
theorem cof_0 {R : Nat → Int} {m i : Nat} (he : ∀ a b, a < 3 → b < 3 → m ≤ a ∨ m ≤ b → R (3 + 3 * a + b) = if a = b then 1 else 0) (h1 : 1 ≤ m) (hm : m ≤ i) (hi : i < 3) {j : Nat} (hj : j < 3) : detZ R ∣ cofZ R j i := by
  have c2 : R 5 = 0 := he 0 2 (by omega) (by omega) (by omega)
  have c3 : R 8 = 0 ∨ i = 1 := by
    by_cases z : i = 1
    · exact Or.inr z
    · exact Or.inl (he 1 2 (by omega) (by omega) (by omega))
  have c8 : R 8 = 0 := he 1 2 (by omega) (by omega) (by omega)
  have c9 : R 9 = 0 := he 2 0 (by omega) (by omega) (by omega)
  have c10 : R 10 = 0 := he 2 1 (by omega) (by omega) (by omega)
  have c11 : R 11 = 1 := he 2 2 (by omega) (by omega) (by omega)
  have i12 : i = 1 ∨ i = 2 := by omega
  have j3 : j = 0 ∨ j = 1 ∨ j = 2 := by omega
  rcases i12 with rfl | rfl
  · have c4 : R 4 = 0 := he 0 1 (by omega) (by omega) (by omega)
    have c6 : R 6 = 0 := he 1 0 (by omega) (by omega) (by omega)
    have c7 : R 7 = 1 := he 1 1 (by omega) (by omega) (by omega)
    rcases j3 with rfl | rfl | rfl
    · simp [detZ, cofZ, c2, c4, c6, c7, c8, c9, c10, c11]
    · simp [detZ, cofZ, c2, c4, c6, c7, c8, c9, c10, c11]
    · simp [detZ, cofZ, c2, c4, c6, c7, c8, c9, c10, c11]
  · rcases j3 with rfl | rfl | rfl
    · simp [detZ, cofZ, c2, c8, c9, c10, c11]
    · simp [detZ, cofZ, c2, c8, c9, c10, c11]
    · have e : detZ R = cofZ R 2 2 := by
        simp only [detZ, cofZ, Nat.reduceAdd, Nat.reduceMul, Nat.reduceMod, c2, c8, c9, c10, c11]
        grind
      rw [e]
      exact Int.dvd_refl _
theorem uw_0 {r : Nat → Int32} {m nc nk i : Nat} (hr : RW r m nc nk) (h0 : 0 < szN r) (hm : m ≤ i) (hi : i < 3) : uwT r i = (0, 0, 0) := by
  have he : ∀ a b, a < 3 → b < 3 → m ≤ a ∨ m ≤ b → zi r (3 + 3 * a + b) = if a = b then 1 else 0 := fun a b ha hb hab => by
    rw [zi, hr.2.2.2.1.1 a b ha hb hab]
    split <;> rfl
  have key : ∀ j, j < 3 → wtN r (unU i) j = 0 := fun j hj => by
    have cd := cof_0 he hr.2.1.2.1 hm hi hj
    have dv : (szN r : Int) ∣ ivZ r i j := by
      rw [szN_eq h0, Int.natAbs_dvd, ivZ]
      split
      · exact Int.dvd_neg.mpr cd
      · exact cd
    have ez : wtZ r (unU i) j = ivZ r i j := by
      have i3 : i = 0 ∨ i = 1 ∨ i = 2 := by omega
      rw [wtZ]
      rcases i3 with rfl | rfl | rfl
      · rw [show unU 0 0 = nI 1 from rfl, show unU 0 1 = nI 0 from rfl, show unU 0 2 = nI 0 from rfl, show (nI 1).toInt = 1 from rfl, show (nI 0).toInt = 0 from rfl]; omega
      · rw [show unU 1 0 = nI 0 from rfl, show unU 1 1 = nI 1 from rfl, show unU 1 2 = nI 0 from rfl, show (nI 1).toInt = 1 from rfl, show (nI 0).toInt = 0 from rfl]; omega
      · rw [show unU 2 0 = nI 0 from rfl, show unU 2 1 = nI 0 from rfl, show unU 2 2 = nI 1 from rfl, show (nI 1).toInt = 1 from rfl, show (nI 0).toInt = 0 from rfl]; omega
    rw [wtN, ez, Int.emod_eq_zero_of_dvd dv]; rfl
  rw [uwT, wtT, key 0 (by omega), key 1 (by omega), key 2 (by omega)]
theorem chF_3 {r : Nat → Int32} {m nc nk : Nat} (hr : RW r m nc nk) (h0 : 0 < szN r) : chF r 3 = chF r m := by
  have m3 := hr.2.1.2.2
  rw [chF, chF, show 3 = m + (3 - m) by omega]
  exact clT_m hr.1.1 h0 (fun i h1 h2 => uw_0 hr h0 h1 (by omega)) _ _ _ (ch0_ok h0)
/-- a character's function, as the class fills it in -/
theorem fb_gm {r : Nat → Int32} (h0 : 0 < szN r) (w : T3) (e : Nat) : fbN (szN r) (pvN r w) (glN r) e = gmC r w e := by
  rw [fbN, gmC, gmN, Nat.one_mul, Nat.one_mul, Nat.mod_eq_of_lt (pv_lt h0 w e), Nat.mod_eq_of_lt (pv_lt h0 w _)]
