/-! the group by a row of numbers -/
theorem z_mm {x y u v : Int32} (h : (x.toInt * y.toInt - u.toInt * v.toInt).natAbs < 2147483648) : (x * y - u * v).toInt = x.toInt * y.toInt - u.toInt * v.toInt := by
  rw [Int32.toInt_sub, Int32.toInt_mul, Int32.toInt_mul, Int.sub_bmod_bmod, Int.bmod_sub_bmod]
  exact Int.bmod_eq_of_le (by omega) (by omega)
theorem nb_mul {x y : Int} {m n : Nat} (h1 : x.natAbs ≤ m) (h2 : y.natAbs ≤ n) : (x * y).natAbs ≤ m * n := by
  rw [Int.natAbs_mul]; exact Nat.mul_le_mul h1 h2
def cofZ (R : Nat → Int) (i j : Nat) : Int := R (3 + 3 * ((i + 1) % 3) + (j + 1) % 3) * R (3 + 3 * ((i + 2) % 3) + (j + 2) % 3) - R (3 + 3 * ((i + 1) % 3) + (j + 2) % 3) * R (3 + 3 * ((i + 2) % 3) + (j + 1) % 3)
def detZ (R : Nat → Int) : Int := R 3 * cofZ R 0 0 + R 4 * cofZ R 0 1 + R 5 * cofZ R 0 2
/-- the basis' numbers are small -/
def bsOK (r : Nat → Int32) : Prop := ∀ k, k < 9 → (r (3 + k)).toInt.natAbs ≤ 9
theorem cof_b {r : Nat → Int32} (hb : bsOK r) {i j : Nat} (hi : i < 3) (hj : j < 3) : (cofZ (zi r) i j).natAbs ≤ 162 := by
  have g : ∀ u v, u < 3 → v < 3 → (zi r (3 + 3 * u + v)).natAbs ≤ 9 := fun u v hu hv => by
    have := hb (3 * u + v) (by omega)
    rw [← Nat.add_assoc] at this
    exact this
  have m1 : ∀ n : Nat, n % 3 < 3 := fun n => Nat.mod_lt _ (by omega)
  have e1 := nb_mul (g ((i + 1) % 3) ((j + 1) % 3) (m1 _) (m1 _)) (g ((i + 2) % 3) ((j + 2) % 3) (m1 _) (m1 _))
  have e2 := nb_mul (g ((i + 1) % 3) ((j + 2) % 3) (m1 _) (m1 _)) (g ((i + 2) % 3) ((j + 1) % 3) (m1 _) (m1 _))
  have := Int.natAbs_sub_le (zi r (3 + 3 * ((i + 1) % 3) + (j + 1) % 3) * zi r (3 + 3 * ((i + 2) % 3) + (j + 2) % 3)) (zi r (3 + 3 * ((i + 1) % 3) + (j + 2) % 3) * zi r (3 + 3 * ((i + 2) % 3) + (j + 1) % 3))
  rw [cofZ]
  omega
theorem cof_toInt {r : Nat → Int32} (hb : bsOK r) {i j : Nat} (hi : i < 3) (hj : j < 3) : (cofI r i j).toInt = cofZ (zi r) i j := by
  have h := cof_b hb hi hj
  exact z_mm (by have : (cofZ (zi r) i j).natAbs < 2147483648 := by omega
                 exact this)
theorem det_b {r : Nat → Int32} (hb : bsOK r) : (detZ (zi r)).natAbs ≤ 4374 := by
  have e1 := nb_mul (hb 0 (by omega)) (cof_b hb (i := 0) (j := 0) (by omega) (by omega))
  have e2 := nb_mul (hb 1 (by omega)) (cof_b hb (i := 0) (j := 1) (by omega) (by omega))
  have e3 := nb_mul (hb 2 (by omega)) (cof_b hb (i := 0) (j := 2) (by omega) (by omega))
  have e4 := Int.natAbs_add_le ((r (3 + 0)).toInt * cofZ (zi r) 0 0 + (r (3 + 1)).toInt * cofZ (zi r) 0 1) ((r (3 + 2)).toInt * cofZ (zi r) 0 2)
  have e5 := Int.natAbs_add_le ((r (3 + 0)).toInt * cofZ (zi r) 0 0) ((r (3 + 1)).toInt * cofZ (zi r) 0 1)
  have e6 : detZ (zi r) = (r (3 + 0)).toInt * cofZ (zi r) 0 0 + (r (3 + 1)).toInt * cofZ (zi r) 0 1 + (r (3 + 2)).toInt * cofZ (zi r) 0 2 := rfl
  omega
theorem z_add {x y : Int32} (h : (x.toInt + y.toInt).natAbs < 2147483648) : (x + y).toInt = x.toInt + y.toInt := by
  rw [Int32.toInt_add]
  exact Int.bmod_eq_of_le (by omega) (by omega)
theorem z_mul {x y : Int32} (h : (x.toInt * y.toInt).natAbs < 2147483648) : (x * y).toInt = x.toInt * y.toInt := by
  rw [Int32.toInt_mul]
  exact Int.bmod_eq_of_le (by omega) (by omega)
theorem det_toInt {r : Nat → Int32} (hb : bsOK r) : (detI r).toInt = detZ (zi r) := by
  have c0 := cof_toInt hb (i := 0) (j := 0) (by omega) (by omega)
  have c1 := cof_toInt hb (i := 0) (j := 1) (by omega) (by omega)
  have c2 := cof_toInt hb (i := 0) (j := 2) (by omega) (by omega)
  have e1 := nb_mul (hb 0 (by omega)) (cof_b hb (i := 0) (j := 0) (by omega) (by omega))
  have e2 := nb_mul (hb 1 (by omega)) (cof_b hb (i := 0) (j := 1) (by omega) (by omega))
  have e3 := nb_mul (hb 2 (by omega)) (cof_b hb (i := 0) (j := 2) (by omega) (by omega))
  rw [← c0] at e1
  rw [← c1] at e2
  rw [← c2] at e3
  have m1 := z_mul (x := r (3 + 0)) (y := cofI r 0 0) (by omega)
  have m2 := z_mul (x := r (3 + 1)) (y := cofI r 0 1) (by omega)
  have m3 := z_mul (x := r (3 + 2)) (y := cofI r 0 2) (by omega)
  have a1 := z_add (x := r (3 + 0) * cofI r 0 0) (y := r (3 + 1) * cofI r 0 1) (by omega)
  have a2 := z_add (x := r (3 + 0) * cofI r 0 0 + r (3 + 1) * cofI r 0 1) (y := r (3 + 2) * cofI r 0 2) (by omega)
  show (r (3 + 0) * cofI r 0 0 + r (3 + 1) * cofI r 0 1 + r (3 + 2) * cofI r 0 2).toInt = _
  rw [a2, a1, m1, m2, m3, c0, c1, c2]
  rfl
/-- how many elements there are -/
def szN (r : Nat → Int32) : Nat := if (detZ (zi r)).natAbs ≤ 24 then (detZ (zi r)).natAbs else 0
theorem szN_le (r : Nat → Int32) : szN r ≤ 24 := by rw [szN]; split <;> omega
theorem z_neg {x : Int32} (h : x.toInt.natAbs < 2147483648) : (-x).toInt = - x.toInt := by
  rw [Int32.toInt_neg]
  exact Int.bmod_eq_of_le (by omega) (by omega)
theorem abs_toInt {x : Int32} (h : x.toInt.natAbs < 2147483648) : (if x < 0 then -x else x) = nI x.toInt.natAbs := by
  apply Int32.toInt_inj.mp
  rw [nI_toInt (by omega)]
  by_cases c : x < 0
  · have c' : x.toInt < 0 := Int32.lt_iff_toInt_lt.mp c
    rw [if_pos c, z_neg h]; omega
  · have c' : ¬ x.toInt < 0 := fun z => c (Int32.lt_iff_toInt_lt.mpr z)
    rw [if_neg c]; omega
theorem siz_ok {r : Nat → Int32} (hb : bsOK r) : sizI (detI r) = nI (szN r) := by
  have h := det_b hb
  have h2 := det_toInt hb
  have e := abs_toInt (x := detI r) (by rw [h2]; omega)
  rw [h2] at e
  have e3 := nI_ltI (a := 24) (b := (detZ (zi r)).natAbs) (by omega) (by omega)
  rw [sizI, e, szN]
  by_cases c : (detZ (zi r)).natAbs ≤ 24
  · rw [if_pos c, if_neg (fun z => by have := e3.mp z; omega)]
  · rw [if_neg c, if_pos (e3.mpr (by omega))]
theorem det_ne0 {r : Nat → Int32} (hb : bsOK r) (h0 : 0 < szN r) : ¬ detI r = 0 := by
  intro e
  have h2 := det_toInt hb
  rw [e] at h2
  rw [szN, ← h2] at h0
  exact absurd h0 (by decide)
theorem szN_eq {r : Nat → Int32} (h0 : 0 < szN r) : szN r = (detZ (zi r)).natAbs := by
  rw [szN] at h0 ⊢
  split at h0
  · next c => rw [if_pos c]
  · omega
theorem row_zK {r f : Nat → Int32} (hf : ∀ k, k < 9 → f k = r (3 + k)) (h0 : 0 < szN r) : zK (cofZ (zi r)) (szN r) f := by
  have hz : ∀ k, k < 9 → zi f k = zi r (3 + k) := fun k hk => congrArg Int32.toInt (hf k hk)
  have z0 := hz 0 (by omega)
  have z1 := hz 1 (by omega)
  have z2 := hz 2 (by omega)
  have z3 := hz 3 (by omega)
  have z4 := hz 4 (by omega)
  have z5 := hz 5 (by omega)
  have z6 := hz 6 (by omega)
  have z7 := hz 7 (by omega)
  have z8 := hz 8 (by omega)
  simp only [Nat.reduceAdd] at z0 z1 z2 z3 z4 z5 z6 z7 z8
  have hd : dtF (zi f) = detZ (zi r) := by
    simp only [dtF, detZ, cofZ, z0, z1, z2, z3, z4, z5, z6, z7, z8, Nat.reduceAdd, Nat.reduceMod, Nat.reduceMul]
  have hs := szN_eq h0
  refine ⟨by rw [hd, hs], ?_⟩
  intro c k hc hk
  have hdv : ((szN r : Nat) : Int) ∣ detZ (zi r) := by
    rw [hs]; exact Int.natAbs_dvd.mpr (Int.dvd_refl _)
  have key : cofZ (zi r) 0 k * zi f (3 * 0 + c) + cofZ (zi r) 1 k * zi f (3 * 1 + c) + cofZ (zi r) 2 k * zi f (3 * 2 + c) = if c = k then detZ (zi r) else 0 := by
    have hc' : c = 0 ∨ c = 1 ∨ c = 2 := by omega
    have hk' : k = 0 ∨ k = 1 ∨ k = 2 := by omega
    rcases hc' with rfl | rfl | rfl <;> rcases hk' with rfl | rfl | rfl <;> simp only [detZ, cofZ, z0, z1, z2, z3, z4, z5, z6, z7, z8, Nat.reduceAdd, Nat.reduceMod, Nat.reduceMul, if_true] <;> grind
  rw [key]
  split
  · exact hdv
  · exact Int.dvd_zero _
