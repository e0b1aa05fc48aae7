/-! characters as triples of weights, abstract -/
abbrev T3 : Type := Nat × Nat × Nat
/-- the inverse of the basis, times the size -/
def ivZ (r : Nat → Int32) (i j : Nat) : Int := if detI r < 0 then - cofZ (zi r) j i else cofZ (zi r) j i
def wtZ (r u : Nat → Int32) (j : Nat) : Int := (u 0).toInt * ivZ r 0 j + (u 1).toInt * ivZ r 1 j + (u 2).toInt * ivZ r 2 j
def wtN (r u : Nat → Int32) (j : Nat) : Nat := (wtZ r u j % (szN r : Int)).toNat
def wtT (r u : Nat → Int32) : T3 := (wtN r u 0, wtN r u 1, wtN r u 2)
/-- an element's part by weights -/
def pvN (r : Nat → Int32) (w : T3) (e : Nat) : Nat := (w.1 * lrN r e 0 + w.2.1 * lrN r e 1 + w.2.2 * lrN r e 2) % szN r
theorem ivZ_b {r : Nat → Int32} (hb : bsOK r) {i j : Nat} (hi : i < 3) (hj : j < 3) : (ivZ r i j).natAbs ≤ 162 := by
  have := cof_b hb hj hi
  rw [ivZ]; split
  · rw [Int.natAbs_neg]; exact this
  · exact this
theorem z_fma {x y z : Int32} {a b c : Int} (hx : x.toInt = a) (hy : y.toInt = b) (hz : z.toInt = c) (h1 : (b * c).natAbs < 1000000) (h2 : a.natAbs < 2000000000) : (x + y * z).toInt = a + b * c := by
  have m := z_mul (x := y) (y := z) (by rw [hy, hz]; omega)
  rw [hy, hz] at m
  have s := z_add (x := x) (y := y * z) (by rw [m, hx]; omega)
  rw [s, m, hx]
theorem qtY_toInt {r : Nat → Int32} (hb : bsOK r) (h0 : 0 < szN r) {e i : Nat} (he : e < szN r) (hi : i < 3) : (qtY r e i).toInt = cofZ (zi r) 0 i * lrN r e 0 + cofZ (zi r) 1 i * lrN r e 1 + cofZ (zi r) 2 i * lrN r e 2 ∧ (qtY r e i).toInt.natAbs ≤ 20000 := by
  have l0 := lrN_lt hb h0 (i := 0) he
  have l1 := lrN_lt hb h0 (i := 1) he
  have l2 := lrN_lt hb h0 (i := 2) he
  have c0 := cof_b hb (i := 0) (j := i) (by omega) hi
  have c1 := cof_b hb (i := 1) (j := i) (by omega) hi
  have c2 := cof_b hb (i := 2) (j := i) (by omega) hi
  have m0 := nb_mul c0 (show ((lrN r e 0 : Nat) : Int).natAbs ≤ 24 by omega)
  have m1 := nb_mul c1 (show ((lrN r e 1 : Nat) : Int).natAbs ≤ 24 by omega)
  have m2 := nb_mul c2 (show ((lrN r e 2 : Nat) : Int).natAbs ≤ 24 by omega)
  have s0 := z_fma (x := nI 0) (y := cofI r 0 i) (z := nI (lrN r e 0)) (a := 0) rfl (cof_toInt hb (by omega) hi) (nI_toInt (by omega)) (by omega) (by omega)
  have s1 := z_fma (y := cofI r 1 i) (z := nI (lrN r e 1)) s0 (cof_toInt hb (by omega) hi) (nI_toInt (by omega)) (by omega) (by omega)
  have s2 := z_fma (y := cofI r 2 i) (z := nI (lrN r e 2)) s1 (cof_toInt hb (by omega) hi) (nI_toInt (by omega)) (by omega) (by omega)
  have e1 : (qtY r e i).toInt = 0 + cofZ (zi r) 0 i * lrN r e 0 + cofZ (zi r) 1 i * lrN r e 1 + cofZ (zi r) 2 i * lrN r e 2 := s2
  rw [Int.zero_add] at e1
  exact ⟨e1, by rw [e1]; omega⟩
theorem qtZ_toInt {r : Nat → Int32} (hb : bsOK r) (h0 : 0 < szN r) {e i : Nat} (he : e < szN r) (hi : i < 3) : (qtZ r e i).toInt = ivZ r i 0 * lrN r e 0 + ivZ r i 1 * lrN r e 1 + ivZ r i 2 * lrN r e 2 := by
  obtain ⟨h1, h2⟩ := qtY_toInt hb h0 he hi
  rw [qtZ, ivZ, ivZ, ivZ]
  split
  · rw [z_neg (by omega), h1]; grind
  · exact h1
theorem em_sub {x y D : Int} (h : D ∣ x - y) : x % D = y % D := Int.emod_eq_emod_iff_emod_sub_eq_zero.mpr (Int.emod_eq_zero_of_dvd h)
theorem qt_pv {r u : Nat → Int32} (hb : bsOK r) (h0 : 0 < szN r) (hu : ∀ i, i < 3 → (u i).toInt.natAbs ≤ 9) {e : Nat} (he : e < szN r) : qtN r u e = pvN r (wtT r u) e := by
  have hD := szN_le r
  have y0 := qtZ_toInt hb h0 he (i := 0) (by omega)
  have y1 := qtZ_toInt hb h0 he (i := 1) (by omega)
  have y2 := qtZ_toInt hb h0 he (i := 2) (by omega)
  have b0 := rsN_lt h0 (qtZ r e 0)
  have b1 := rsN_lt h0 (qtZ r e 1)
  have b2 := rsN_lt h0 (qtZ r e 2)
  have q0 : ((rsN (szN r) (qtZ r e 0) : Nat) : Int) = (qtZ r e 0).toInt - szN r * ((qtZ r e 0).toInt / szN r) := by
    have := Int.emod_add_mul_ediv (qtZ r e 0).toInt (szN r : Int)
    have := Int.emod_nonneg (qtZ r e 0).toInt (b := (szN r : Int)) (by omega)
    rw [rsN]; omega
  have q1 : ((rsN (szN r) (qtZ r e 1) : Nat) : Int) = (qtZ r e 1).toInt - szN r * ((qtZ r e 1).toInt / szN r) := by
    have := Int.emod_add_mul_ediv (qtZ r e 1).toInt (szN r : Int)
    have := Int.emod_nonneg (qtZ r e 1).toInt (b := (szN r : Int)) (by omega)
    rw [rsN]; omega
  have q2 : ((rsN (szN r) (qtZ r e 2) : Nat) : Int) = (qtZ r e 2).toInt - szN r * ((qtZ r e 2).toInt / szN r) := by
    have := Int.emod_add_mul_ediv (qtZ r e 2).toInt (szN r : Int)
    have := Int.emod_nonneg (qtZ r e 2).toInt (b := (szN r : Int)) (by omega)
    rw [rsN]; omega
  have w : ∀ j, ((wtN r u j : Nat) : Int) = wtZ r u j - szN r * (wtZ r u j / szN r) := fun j => by
    have := Int.emod_add_mul_ediv (wtZ r u j) (szN r : Int)
    have := Int.emod_nonneg (wtZ r u j) (b := (szN r : Int)) (by omega)
    rw [wtN]; omega
  have m0 := nb_mul (hu 0 (by omega)) (show ((rsN (szN r) (qtZ r e 0) : Nat) : Int).natAbs ≤ 24 by omega)
  have m1 := nb_mul (hu 1 (by omega)) (show ((rsN (szN r) (qtZ r e 1) : Nat) : Int).natAbs ≤ 24 by omega)
  have m2 := nb_mul (hu 2 (by omega)) (show ((rsN (szN r) (qtZ r e 2) : Nat) : Int).natAbs ≤ 24 by omega)
  have s0 := z_fma (x := nI 0) (y := u 0) (z := nI (rsN (szN r) (qtZ r e 0))) (a := 0) rfl rfl (nI_toInt (by omega)) (by omega) (by omega)
  have s1 := z_fma (y := u 1) (z := nI (rsN (szN r) (qtZ r e 1))) s0 rfl (nI_toInt (by omega)) (by omega) (by omega)
  have s2 := z_fma (y := u 2) (z := nI (rsN (szN r) (qtZ r e 2))) s1 rfl (nI_toInt (by omega)) (by omega) (by omega)
  have e1 : (qtS r u e 3).toInt = 0 + (u 0).toInt * rsN (szN r) (qtZ r e 0) + (u 1).toInt * rsN (szN r) (qtZ r e 1) + (u 2).toInt * rsN (szN r) (qtZ r e 2) := s2
  have key : (qtS r u e 3).toInt % (szN r : Int) = ((wtN r u 0 * lrN r e 0 + wtN r u 1 * lrN r e 1 + wtN r u 2 * lrN r e 2 : Nat) : Int) % (szN r : Int) := by
    refine em_sub ⟨lrN r e 0 * (wtZ r u 0 / szN r) + lrN r e 1 * (wtZ r u 1 / szN r) + lrN r e 2 * (wtZ r u 2 / szN r) - (u 0).toInt * ((qtZ r e 0).toInt / szN r) - (u 1).toInt * ((qtZ r e 1).toInt / szN r) - (u 2).toInt * ((qtZ r e 2).toInt / szN r), ?_⟩
    rw [e1, q0, q1, q2, Int.natCast_add, Int.natCast_add, Int.natCast_mul, Int.natCast_mul, Int.natCast_mul, w 0, w 1, w 2]
    generalize (qtZ r e 0).toInt / (szN r : Int) = k0
    generalize (qtZ r e 1).toInt / (szN r : Int) = k1
    generalize (qtZ r e 2).toInt / (szN r : Int) = k2
    generalize wtZ r u 0 / (szN r : Int) = h0
    generalize wtZ r u 1 / (szN r : Int) = h1
    generalize wtZ r u 2 / (szN r : Int) = h2
    rw [y0, y1, y2, wtZ, wtZ, wtZ]
    grind
  show ((qtS r u e 3).toInt % (szN r : Int)).toNat = pvN r (wtT r u) e
  rw [key, ← Int.natCast_emod]
  rfl
/-- a triple that all multiples of the basis bring to nought -/
def chT (r : Nat → Int32) (w : T3) : Prop := (w.1 < szN r ∧ w.2.1 < szN r ∧ w.2.2 < szN r) ∧ szN r ∣ w.1 * gA r + w.2.1 * gP r + w.2.2 * gQ r ∧ szN r ∣ w.2.1 * gB r + w.2.2 * gR r ∧ szN r ∣ w.2.2 * gC r
theorem wtN_lt {r u : Nat → Int32} (h0 : 0 < szN r) (j : Nat) : wtN r u j < szN r := by
  have := Int.emod_nonneg (wtZ r u j) (b := (szN r : Int)) (by omega)
  have := Int.emod_lt_of_pos (wtZ r u j) (b := (szN r : Int)) (by omega)
  rw [wtN]; omega
theorem iv_la {r : Nat → Int32} {F : Nat → Int} (hl : laF (cofZ (zi r)) (szN r) F) {c k : Nat} (hc : c < 3) (hk : k < 3) : ∃ d, ivZ r k 0 * F (3 * 0 + c) + ivZ r k 1 * F (3 * 1 + c) + ivZ r k 2 * F (3 * 2 + c) = (szN r : Int) * d := by
  obtain ⟨d, e⟩ := hl c k hc hk
  rw [ivZ, ivZ, ivZ]
  split
  · exact ⟨-d, by grind⟩
  · exact ⟨d, e⟩
theorem wt_dv {r u : Nat → Int32} {F : Nat → Int} (h0 : 0 < szN r) (hl : laF (cofZ (zi r)) (szN r) F) {c : Nat} (hc : c < 3) : (szN r : Int) ∣ wtN r u 0 * F (3 * 0 + c) + wtN r u 1 * F (3 * 1 + c) + wtN r u 2 * F (3 * 2 + c) := by
  have w : ∀ j, ((wtN r u j : Nat) : Int) = wtZ r u j - szN r * (wtZ r u j / szN r) := fun j => by
    have := Int.emod_add_mul_ediv (wtZ r u j) (szN r : Int)
    have := Int.emod_nonneg (wtZ r u j) (b := (szN r : Int)) (by omega)
    rw [wtN]; omega
  obtain ⟨d0, e0⟩ := iv_la hl hc (k := 0) (by omega)
  obtain ⟨d1, e1⟩ := iv_la hl hc (k := 1) (by omega)
  obtain ⟨d2, e2⟩ := iv_la hl hc (k := 2) (by omega)
  refine ⟨(u 0).toInt * d0 + (u 1).toInt * d1 + (u 2).toInt * d2 - (wtZ r u 0 / szN r) * F (3 * 0 + c) - (wtZ r u 1 / szN r) * F (3 * 1 + c) - (wtZ r u 2 / szN r) * F (3 * 2 + c), ?_⟩
  rw [w 0, w 1, w 2]
  generalize wtZ r u 0 / (szN r : Int) = h0
  generalize wtZ r u 1 / (szN r : Int) = h1
  generalize wtZ r u 2 / (szN r : Int) = h2
  rw [wtZ, wtZ, wtZ]
  grind
theorem chT_wt {r : Nat → Int32} (u : Nat → Int32) (hb : bsOK r) (h0 : 0 < szN r) : chT r (wtT r u) := by
  obtain ⟨⟨e0, e3, e4, e6, e7, e8⟩, ⟨e1, e2, e5⟩, -, -, ⟨ha, hb', hc⟩, hp, hq, hr, hl⟩ := hm_ok hb h0
  have f : ∀ {k n : Nat}, hmR r k = nI n → n < 1000 → zi (hmR r) k = n := fun e h => by rw [zi, e, nI_toInt (by omega)]
  have f0 : zi (hmR r) 0 = gA r := f e0 (by omega)
  have f3 : zi (hmR r) 3 = gP r := f e3 (by omega)
  have f4 : zi (hmR r) 4 = gB r := f e4 (by omega)
  have f6 : zi (hmR r) 6 = gQ r := f e6 (by omega)
  have f7 : zi (hmR r) 7 = gR r := f e7 (by omega)
  have f8 : zi (hmR r) 8 = gC r := f e8 (by omega)
  have f1 : zi (hmR r) 1 = 0 := by rw [zi, e1]; rfl
  have f2 : zi (hmR r) 2 = 0 := by rw [zi, e2]; rfl
  have f5 : zi (hmR r) 5 = 0 := by rw [zi, e5]; rfl
  have d0 := wt_dv (u := u) h0 hl (c := 0) (by omega)
  have d1 := wt_dv (u := u) h0 hl (c := 1) (by omega)
  have d2 := wt_dv (u := u) h0 hl (c := 2) (by omega)
  simp only [Nat.reduceMul, Nat.reduceAdd, f0, f1, f2, f3, f4, f5, f6, f7, f8, Int.mul_zero, Int.zero_add] at d0 d1 d2
  refine ⟨⟨wtN_lt h0 0, wtN_lt h0 1, wtN_lt h0 2⟩, ?_, ?_, ?_⟩
  · exact Int.natCast_dvd_natCast.mp (by rw [Int.natCast_add, Int.natCast_add, Int.natCast_mul, Int.natCast_mul, Int.natCast_mul]; exact d0)
  · exact Int.natCast_dvd_natCast.mp (by rw [Int.natCast_add, Int.natCast_mul, Int.natCast_mul]; exact d1)
  · exact Int.natCast_dvd_natCast.mp (by rw [Int.natCast_mul]; exact d2)
def t3a (D : Nat) (w u : T3) : T3 := ((w.1 + u.1) % D, (w.2.1 + u.2.1) % D, (w.2.2 + u.2.2) % D)
theorem dv_mod {D x y z a b c : Nat} (h : D ∣ x * a + y * b + z * c) : D ∣ x % D * a + y % D * b + z % D * c := by
  have e : x * a + y * b + z * c = (x % D * a + y % D * b + z % D * c) + D * (x / D * a + y / D * b + z / D * c) := by
    have hx := Nat.mod_add_div x D
    have hy := Nat.mod_add_div y D
    have hz := Nat.mod_add_div z D
    generalize x % D = x1 at *
    generalize x / D = x2 at *
    generalize y % D = y1 at *
    generalize y / D = y2 at *
    generalize z % D = z1 at *
    generalize z / D = z2 at *
    subst hx hy hz
    grind
  rw [e] at h
  exact (Nat.dvd_add_iff_left (Nat.dvd_mul_right _ _)).mpr h
theorem chT_add {r : Nat → Int32} {w u : T3} (h0 : 0 < szN r) (hw : chT r w) (hu : chT r u) : chT r (t3a (szN r) w u) := by
  obtain ⟨-, w0, w1, w2⟩ := hw
  obtain ⟨-, u0, u1, u2⟩ := hu
  refine ⟨⟨Nat.mod_lt _ h0, Nat.mod_lt _ h0, Nat.mod_lt _ h0⟩, ?_, ?_, ?_⟩
  · have d := Nat.dvd_add w0 u0
    refine dv_mod ?_
    have e : (w.1 + u.1) * gA r + (w.2.1 + u.2.1) * gP r + (w.2.2 + u.2.2) * gQ r = w.1 * gA r + w.2.1 * gP r + w.2.2 * gQ r + (u.1 * gA r + u.2.1 * gP r + u.2.2 * gQ r) := by grind
    rw [e]; exact d
  · have d := Nat.dvd_add w1 u1
    have k := dv_mod (D := szN r) (x := 0) (a := 0) (y := w.2.1 + u.2.1) (z := w.2.2 + u.2.2) (b := gB r) (c := gR r) (by
      have e : 0 * 0 + (w.2.1 + u.2.1) * gB r + (w.2.2 + u.2.2) * gR r = w.2.1 * gB r + w.2.2 * gR r + (u.2.1 * gB r + u.2.2 * gR r) := by grind
      rw [e]; exact d)
    rwa [Nat.mul_zero, Nat.zero_add] at k
  · have d := Nat.dvd_add w2 u2
    have k := dv_mod (D := szN r) (x := 0) (a := 0) (y := 0) (z := w.2.2 + u.2.2) (b := 0) (c := gC r) (by
      have e : 0 * 0 + 0 * 0 + (w.2.2 + u.2.2) * gC r = w.2.2 * gC r + u.2.2 * gC r := by grind
      rw [e]; exact d)
    rwa [Nat.mul_zero, Nat.zero_add] at k
theorem chT_0 {r : Nat → Int32} (h0 : 0 < szN r) : chT r (0, 0, 0) := by
  refine ⟨⟨h0, h0, h0⟩, ?_, ?_, ?_⟩ <;> simp
theorem pv_add {r : Nat → Int32} (w u : T3) (e : Nat) : pvN r (t3a (szN r) w u) e = (pvN r w e + pvN r u e) % szN r := by
  rw [pvN, pvN, pvN, ← Nat.add_mod, t3a]
  dsimp only
  have e1 : ∀ x y z a b c D : Nat, (x % D * a + y % D * b + z % D * c) % D = (x * a + y * b + z * c) % D := by
    intro x y z a b c D
    rw [Nat.add_mod, Nat.add_mod (x % D * a), Nat.mul_mod, Nat.mod_mod, ← Nat.mul_mod, Nat.mul_mod (y % D), Nat.mod_mod, ← Nat.mul_mod, Nat.mul_mod (z % D), Nat.mod_mod, ← Nat.mul_mod, ← Nat.add_mod (x * a), ← Nat.add_mod]
  rw [e1]
  congr 1
  grind
theorem eq_of_dv {a n k x y : Nat} (ha : 0 < a) (hn : 0 < n) (h1 : a * n ∣ x * a + k) (h2 : a * n ∣ y * a + k) (hq : x / n = y / n) : x = y := by
  have key : ∀ x y, x ≤ y → a * n ∣ x * a + k → a * n ∣ y * a + k → x / n = y / n → x = y := by
    intro x y hxy h1 h2 hq
    have h3 := Nat.dvd_sub h2 h1
    have e : y * a + k - (x * a + k) = a * (y - x) := by
      have := Nat.mul_le_mul_right a hxy
      rw [Nat.mul_sub, Nat.mul_comm a y, Nat.mul_comm a x]
      omega
    rw [e] at h3
    obtain ⟨t, ht⟩ := Nat.dvd_of_mul_dvd_mul_left ha h3
    have ey : y = x + n * t := by omega
    rw [ey, Nat.add_mul_div_left _ _ hn] at hq
    have : t = 0 := by omega
    subst this
    omega
  rcases Nat.le_total x y with c | c
  · exact key x y c h1 h2 hq
  · exact (key y x c h2 h1 hq.symm).symm
theorem en_abs {a b c p q s : Nat} (ha : 0 < a) (hb : 0 < b) (hc : 0 < c) {w u : T3} (w0 : a * b * c ∣ w.1 * a + w.2.1 * p + w.2.2 * q) (w1 : a * b * c ∣ w.2.1 * b + w.2.2 * s) (w2 : a * b * c ∣ w.2.2 * c) (u0 : a * b * c ∣ u.1 * a + u.2.1 * p + u.2.2 * q) (u1 : a * b * c ∣ u.2.1 * b + u.2.2 * s) (u2 : a * b * c ∣ u.2.2 * c) (q0 : w.1 / (b * c) = u.1 / (b * c)) (q1 : w.2.1 / (a * c) = u.2.1 / (a * c)) (q2 : w.2.2 / (a * b) = u.2.2 / (a * b)) : w = u := by
  have m1 : a * b * c = c * (a * b) := by grind
  have m2 : a * b * c = b * (a * c) := by grind
  have m3 : a * b * c = a * (b * c) := by grind
  have x2 : w.2.2 = u.2.2 := eq_of_dv (k := 0) hc (Nat.mul_pos ha hb) (by rw [← m1]; exact w2) (by rw [← m1]; exact u2) q2
  rw [x2] at w0 w1
  have x1 : w.2.1 = u.2.1 := eq_of_dv (k := u.2.2 * s) hb (Nat.mul_pos ha hc) (by rw [← m2]; exact w1) (by rw [← m2]; exact u1) q1
  rw [x1] at w0
  rw [Nat.add_assoc] at w0 u0
  have x0 : w.1 = u.1 := eq_of_dv (k := u.2.1 * p + u.2.2 * q) ha (Nat.mul_pos hb hc) (by rw [← m3]; exact w0) (by rw [← m3]; exact u0) q0
  exact Prod.ext x0 (Prod.ext x1 x2)
def enC (r : Nat → Int32) (w : T3) : Nat := (w.1 / (gB r * gC r) * gB r + w.2.1 / (gA r * gC r)) * gC r + w.2.2 / (gA r * gB r)
theorem enC_b {r : Nat → Int32} (hb : bsOK r) (h0 : 0 < szN r) {w : T3} (hw : chT r w) : w.1 / (gB r * gC r) < gA r ∧ w.2.1 / (gA r * gC r) < gB r ∧ w.2.2 / (gA r * gB r) < gC r := by
  obtain ⟨-, -, ⟨ha, hb', hc⟩, hm, -⟩ := hm_ok hb h0
  obtain ⟨⟨w0, w1, w2⟩, -⟩ := hw
  rw [← hm] at w0 w1 w2
  refine ⟨Nat.div_lt_of_lt_mul ?_, Nat.div_lt_of_lt_mul ?_, Nat.div_lt_of_lt_mul w2⟩
  · have e : gB r * gC r * gA r = gA r * gB r * gC r := by grind
    rw [e]; exact w0
  · have e : gA r * gC r * gB r = gA r * gB r * gC r := by grind
    rw [e]; exact w1
theorem enC_lt {r : Nat → Int32} (hb : bsOK r) (h0 : 0 < szN r) {w : T3} (hw : chT r w) : enC r w < szN r := by
  obtain ⟨b0, b1, b2⟩ := enC_b hb h0 hw
  obtain ⟨-, -, -, hm, -⟩ := hm_ok hb h0
  rw [← hm, enC]
  have e1 : w.1 / (gB r * gC r) * gB r + w.2.1 / (gA r * gC r) + 1 ≤ gA r * gB r := by
    have := Nat.mul_le_mul_right (gB r) (show w.1 / (gB r * gC r) + 1 ≤ gA r by omega)
    rw [Nat.add_mul] at this
    omega
  have e2 := Nat.mul_le_mul_right (gC r) e1
  rw [Nat.add_mul] at e2
  omega
theorem enC_inj {r : Nat → Int32} (hb : bsOK r) (h0 : 0 < szN r) {w u : T3} (hw : chT r w) (hu : chT r u) (e : enC r w = enC r u) : w = u := by
  obtain ⟨b0, b1, b2⟩ := enC_b hb h0 hw
  obtain ⟨c0, c1, c2⟩ := enC_b hb h0 hu
  obtain ⟨-, -, ⟨ha, hb', hc⟩, hm, -⟩ := hm_ok hb h0
  obtain ⟨d0, d1, d2⟩ := l_dec (b := gB r) (c := gC r) (i := w.1 / (gB r * gC r)) b1 b2
  obtain ⟨f0, f1, f2⟩ := l_dec (b := gB r) (c := gC r) (i := u.1 / (gB r * gC r)) c1 c2
  rw [enC, enC] at e
  rw [e] at d0 d1 d2
  have q0 := d0.symm.trans f0
  have q1 := d1.symm.trans f1
  have q2 := d2.symm.trans f2
  obtain ⟨-, w0, w1, w2⟩ := hw
  obtain ⟨-, u0, u1, u2⟩ := hu
  rw [← hm] at w0 w1 w2 u0 u1 u2
  exact en_abs ha hb' hc w0 w1 w2 u0 u1 u2 q0 q1 q2
theorem ch_len {r : Nat → Int32} (hb : bsOK r) (h0 : 0 < szN r) {l : List T3} (hn : l.Nodup) (hl : ∀ w, w ∈ l → chT r w) : l.length ≤ szN r := by
  have h1 : (l.map (enC r)).Nodup := by
    rw [List.nodup_iff_pairwise_ne, List.pairwise_map]
    refine (List.nodup_iff_pairwise_ne.mp hn).imp_of_mem ?_
    intro a b ha hb2 hab e
    exact hab (enC_inj hb h0 (hl a ha) (hl b hb2) e)
  have h2 := h1.length_le_of_subset (l₂ := List.range (szN r)) (by
    intro x hx
    obtain ⟨a, ha, rfl⟩ := List.mem_map.mp hx
    exact List.mem_range.mpr (enC_lt hb h0 (hl a ha)))
  simpa using h2
theorem pv_inj {r : Nat → Int32} (hb : bsOK r) (h0 : 0 < szN r) {w u : T3} (hw : chT r w) (hu : chT r u) (e : ∀ k, k < szN r → pvN r w k = pvN r u k) : w = u := by
  obtain ⟨-, -, ⟨ha, hb', hc⟩, hm, -⟩ := hm_ok hb h0
  obtain ⟨⟨l0', l1', l2'⟩, w0, w1, w2⟩ := hw
  obtain ⟨⟨k0', k1', k2'⟩, u0, u1, u2⟩ := hu
  have at0 : ∀ i j k, j < gB r → k < gC r → i < gA r → (w.1 * i + w.2.1 * j + w.2.2 * k) % szN r = (u.1 * i + u.2.1 * j + u.2.2 * k) % szN r := by
    intro i j k hj hk hi
    obtain ⟨d0, d1, d2⟩ := l_dec (b := gB r) (c := gC r) (i := i) hj hk
    have hlt : (i * gB r + j) * gC r + k < szN r := by
      rw [← hm]
      have e1 : i * gB r + j + 1 ≤ gA r * gB r := by
        have := Nat.mul_le_mul_right (gB r) (show i + 1 ≤ gA r by omega)
        rw [Nat.add_mul] at this
        omega
      have e2 := Nat.mul_le_mul_right (gC r) e1
      rw [Nat.add_mul] at e2
      omega
    have := e _ hlt
    have q0 : lrN r ((i * gB r + j) * gC r + k) 0 = i := d0
    have q1 : lrN r ((i * gB r + j) * gC r + k) 1 = j := d1
    have q2 : lrN r ((i * gB r + j) * gC r + k) 2 = k := d2
    rw [pvN, pvN, q0, q1, q2] at this
    exact this
  have zz : ∀ x : Nat, x < szN r → x / szN r = 0 := fun x hx => Nat.div_eq_of_lt hx
  have x2 : w.2.2 = u.2.2 := by
    by_cases c : 1 < gC r
    · have := at0 0 0 1 hb' c ha
      simp only [Nat.mul_zero, Nat.mul_one, Nat.zero_add] at this
      rwa [Nat.mod_eq_of_lt l2', Nat.mod_eq_of_lt k2'] at this
    · have c1 : gC r = 1 := by omega
      rw [c1] at w2 u2
      exact eq_of_dv (a := 1) (n := szN r) (k := 0) (by omega) h0 (by rw [Nat.one_mul]; exact w2) (by rw [Nat.one_mul]; exact u2) (by rw [zz _ l2', zz _ k2'])
  have x1 : w.2.1 = u.2.1 := by
    by_cases c : 1 < gB r
    · have := at0 0 1 0 c hc ha
      simp only [Nat.mul_zero, Nat.mul_one, Nat.zero_add, Nat.add_zero] at this
      rwa [Nat.mod_eq_of_lt l1', Nat.mod_eq_of_lt k1'] at this
    · have c1 : gB r = 1 := by omega
      rw [c1] at w1 u1
      rw [x2] at w1
      exact eq_of_dv (a := 1) (n := szN r) (by omega) h0 (by rw [Nat.one_mul]; exact w1) (by rw [Nat.one_mul]; exact u1) (by rw [zz _ l1', zz _ k1'])
  have x0 : w.1 = u.1 := by
    by_cases c : 1 < gA r
    · have := at0 1 0 0 hb' hc c
      simp only [Nat.mul_zero, Nat.mul_one, Nat.add_zero] at this
      rwa [Nat.mod_eq_of_lt l0', Nat.mod_eq_of_lt k0'] at this
    · have c1 : gA r = 1 := by omega
      rw [c1] at w0 u0
      rw [x2, x1, Nat.add_assoc] at w0
      rw [Nat.add_assoc] at u0
      exact eq_of_dv (a := 1) (n := szN r) (by omega) h0 (by rw [Nat.one_mul]; exact w0) (by rw [Nat.one_mul]; exact u0) (by rw [zz _ l0', zz _ k0'])
  exact Prod.ext x0 (Prod.ext x1 x2)
