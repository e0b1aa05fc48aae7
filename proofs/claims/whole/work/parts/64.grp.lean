/-! elements over ints; Hermite's form by a row of numbers alone -/
def agr (f g : Nat → Int32) : Prop := ∀ i c, i < 3 → c < 3 → f (3 * i + c) = g (3 * i + c)
theorem agr_less {f g : Nat → Int32} {j k : Nat} {t : Int32} (h : agr f g) (hj : j < 3) (hk : k < 3) : agr (lessA j k t f) (lessA j k t g) := by
  intro i c hi hc
  by_cases e : c = j
  · subst e
    by_cases e2 : k = c
    · subst e2; rw [lessA_e _ _ hj hi, lessA_e _ _ hj hi, h i k hi hk]
    · rw [lessA_j _ _ hj hk hi e2, lessA_j _ _ hj hk hi e2, h i c hi hc, h i k hi hk]
  · rw [lessA_o _ _ hj hc hi e, lessA_o _ _ hj hc hi e, h i c hi hc]
theorem agr_euT {f g : Nat → Int32} {i j : Nat} (h : agr f g) (hi : i < 3) (hj : j < 3) (hij : j ≠ i) : agr (euT i j f) (euT i j g) := by
  intro r c hr hc
  by_cases e : c = i
  · subst e; rw [euT_i _ hi hj hr hij, euT_i _ hi hj hr hij, h r j hr hj]
  · by_cases e2 : c = j
    · subst e2; rw [euT_j _ hi hj hr hij, euT_j _ hi hj hr hij, h r i hr hi, h r c hr hc, h i i hi hi, h i c hi hc]
    · rw [euT_o _ hi hj hc hr e e2, euT_o _ hi hj hc hr e e2, h r c hr hc]
theorem agr_euA {f g : Nat → Int32} {i j : Nat} (h : agr f g) (hi : i < 3) (hj : j < 3) (hij : j ≠ i) : agr (euA i j f) (euA i j g) := by
  have hm : euM i j f = euM i j g := by rw [euM, euM, h i j hi hj]
  rw [euA, euA, hm]
  generalize euM i j g = n
  clear hm
  induction n generalizing f g with
  | zero => exact h
  | succ n ih =>
    by_cases c : g (3 * i + j) = 0
    · have c' : f (3 * i + j) = 0 := (h i j hi hj).trans c
      simp only [xit, euS, if_pos c, if_pos c']
      exact h
    · have c' : ¬ f (3 * i + j) = 0 := fun z => c ((h i j hi hj).symm.trans z)
      simp only [xit, euS, if_neg c, if_neg c']
      exact ih (agr_euT h hi hj hij)
theorem agr_sgn {f g : Nat → Int32} {i : Nat} (h : agr f g) (hi : i < 3) : agr (sgnA i f) (sgnA i g) := by
  rw [sgnA, sgnA, h i i hi hi]
  split
  · exact agr_less h hi hi
  · exact h
theorem agr_red {f g : Nat → Int32} {i : Nat} (h : agr f g) (hi : i < 3) : ∀ j, j ≤ i → agr (redB i j f) (redB i j g) := by
  intro j
  induction j with
  | zero => exact fun _ => h
  | succ j ih =>
    intro hj
    have h2 := ih (by omega)
    rw [redB_s, redB_s, h2 i j hi (by omega), h2 i i hi hi]
    exact agr_less h2 (by omega) hi
theorem agr_col {f g : Nat → Int32} {i : Nat} (h : agr f g) (hi : i < 3) : agr (colA i f) (colA i g) := by
  have hc : i = 0 ∨ i = 1 ∨ i = 2 := by omega
  rcases hc with rfl | rfl | rfl
  · exact agr_euA (i := 0) (j := 2) (agr_euA (i := 0) (j := 1) h (by omega) (by omega) (by omega)) (by omega) (by omega) (by omega)
  · exact agr_euA (i := 1) (j := 2) h (by omega) (by omega) (by omega)
  · exact h
theorem agr_herm {f g : Nat → Int32} (h : agr f g) : ∀ n, n ≤ 3 → agr (hermA n f) (hermA n g) := by
  intro n
  induction n with
  | zero => exact fun _ => h
  | succ n ih =>
    intro hn
    rw [hermA_s, hermA_s, rowA, rowA]
    exact agr_red (agr_sgn (agr_col (ih (by omega)) (by omega)) (by omega)) (by omega) n (Nat.le_refl _)
/-- the basis of least rows by a row of numbers -/
def hmR (r : Nat → Int32) : Nat → Int32 := hermA 3 (fun k => r (3 + k))
def gA (r : Nat → Int32) : Nat := (hmR r 0).toInt.toNat
def gP (r : Nat → Int32) : Nat := (hmR r 3).toInt.toNat
def gB (r : Nat → Int32) : Nat := (hmR r 4).toInt.toNat
def gQ (r : Nat → Int32) : Nat := (hmR r 6).toInt.toNat
def gR (r : Nat → Int32) : Nat := (hmR r 7).toInt.toNat
def gC (r : Nat → Int32) : Nat := (hmR r 8).toInt.toNat
theorem nI_tN {x : Int32} {n : Nat} (h : x = nI n) (hn : n < 2147483648) : x.toInt.toNat = n := by
  rw [h, nI_toInt hn]; omega
/-- what there is to say of it -/
theorem hm_ok {r : Nat → Int32} (hb : bsOK r) (h0 : 0 < szN r) :
    (hmR r 0 = nI (gA r) ∧ hmR r 3 = nI (gP r) ∧ hmR r 4 = nI (gB r) ∧ hmR r 6 = nI (gQ r) ∧ hmR r 7 = nI (gR r) ∧ hmR r 8 = nI (gC r)) ∧ (hmR r 1 = 0 ∧ hmR r 2 = 0 ∧ hmR r 5 = 0) ∧ (0 < gA r ∧ 0 < gB r ∧ 0 < gC r) ∧ gA r * gB r * gC r = szN r ∧ (gA r ≤ 24 ∧ gB r ≤ 24 ∧ gC r ≤ 24) ∧ gP r < gB r ∧ gQ r < gC r ∧ gR r < gC r ∧ laF (cofZ (zi r)) (szN r) (zi (hmR r)) := by
  have hD := szN_le r
  have hk : zK (cofZ (zi r)) (szN r) (fun k => r (3 + k)) := row_zK (fun k _ => rfl) h0
  obtain ⟨-, a, b, c, p, q, s, ⟨e0, e1, e2, e3, e4, e5, e6, e7, e8⟩, hm, hp, hq, hs, hl⟩ := herm_ok (f := fun k => r (3 + k)) hb h0 hk
  have ha0 : 0 < a := Nat.pos_of_ne_zero (fun z => by rw [z] at hm; simp at hm; omega)
  have hb0 : 0 < b := Nat.pos_of_ne_zero (fun z => by rw [z] at hm; simp at hm; omega)
  have hc0 : 0 < c := Nat.pos_of_ne_zero (fun z => by rw [z] at hm; simp at hm; omega)
  have hab : a ≤ 24 := by
    have := Nat.le_mul_of_pos_right (a * b) hc0
    have := Nat.le_mul_of_pos_right a hb0
    omega
  have hbb : b ≤ 24 := by
    have := Nat.le_mul_of_pos_right (a * b) hc0
    have := Nat.le_mul_of_pos_left b ha0
    omega
  have hcb : c ≤ 24 := by
    have := Nat.le_mul_of_pos_left c (Nat.mul_pos ha0 hb0)
    omega
  have f0 : gA r = a := nI_tN e0 (by omega)
  have f3 : gP r = p := nI_tN e3 (by omega)
  have f4 : gB r = b := nI_tN e4 (by omega)
  have f6 : gQ r = q := nI_tN e6 (by omega)
  have f7 : gR r = s := nI_tN e7 (by omega)
  have f8 : gC r = c := nI_tN e8 (by omega)
  rw [f0, f3, f4, f6, f7, f8]
  exact ⟨⟨e0, e3, e4, e6, e7, e8⟩, ⟨e1, e2, e5⟩, ⟨ha0, hb0, hc0⟩, hm, ⟨hab, hbb, hcb⟩, hp, hq, hs, hl⟩
/-- an element over ints -/
theorem el_ok {hh v : Nat → Int32} {a b c p q r : Nat} (h0 : hh 0 = nI a) (h3 : hh 3 = nI p) (h4 : hh 4 = nI b) (h6 : hh 6 = nI q) (h7 : hh 7 = nI r) (h8 : hh 8 = nI c) (ha : 0 < a) (hb : 0 < b) (hc : 0 < c) (ha2 : a ≤ 24) (hb2 : b ≤ 24) (hc2 : c ≤ 24) (hp : p < b) (hq : q < c) (hr : r < c)
    (hv : ∀ i, i < 3 → (v i).toInt.natAbs ≤ 20000) : elI hh (elA hh 3 v) = nI (gN a b c p q r (v 0).toInt (v 1).toInt (v 2).toInt) := by
  have t0 : (hh 0).toInt = a := by rw [h0, nI_toInt (by omega)]
  have t3 : (hh 3).toInt = p := by rw [h3, nI_toInt (by omega)]
  have t4 : (hh 4).toInt = b := by rw [h4, nI_toInt (by omega)]
  have t6 : (hh 6).toInt = q := by rw [h6, nI_toInt (by omega)]
  have t7 : (hh 7).toInt = r := by rw [h7, nI_toInt (by omega)]
  have t8 : (hh 8).toInt = c := by rw [h8, nI_toInt (by omega)]
  have v0 := hv 0 (by omega)
  have v1 := hv 1 (by omega)
  have v2 := hv 2 (by omega)
  -- the first number
  have d0 : (downI (v 0) (hh 0)).toInt = (v 0).toInt / a := by rw [downI_toInt (by omega), t0]
  have d0b : ((v 0).toInt / a).natAbs ≤ 20000 := Nat.le_trans (Int.natAbs_ediv_le_natAbs _ _) v0
  have m0 := Int.emod_add_mul_ediv (v 0).toInt a
  have m0a := gX_b ha (v 0).toInt
  have w0 : (v 0 - downI (v 0) (hh 0) * hh 0).toInt = gX a (v 0).toInt := by
    have e : (v 0).toInt - (v 0).toInt / a * a = gX a (v 0).toInt := by
      rw [gX, Int.mul_comm]; omega
    rw [z_sub (by rw [d0, t0, e]; omega), d0, t0, e]
  have n1 := nb_mul d0b (show (p : Int).natAbs ≤ 24 by omega)
  have w1 : (v 1 - downI (v 0) (hh 0) * hh 3).toInt = gU a p (v 0).toInt (v 1).toInt := by
    have e : (v 1).toInt - (v 0).toInt / a * p = gU a p (v 0).toInt (v 1).toInt := rfl
    rw [z_sub (by rw [d0, t3]; omega), d0, t3, e]
  have n2 := nb_mul d0b (show (q : Int).natAbs ≤ 24 by omega)
  have w2 : (v 2 - downI (v 0) (hh 0) * hh 6).toInt = (v 2).toInt - (v 0).toInt / a * q := by
    rw [z_sub (by rw [d0, t6]; omega), d0, t6]
  have u1 : (gU a p (v 0).toInt (v 1).toInt).natAbs ≤ 500000 := by
    rw [gU]; omega
  generalize hW0 : v 0 - downI (v 0) (hh 0) * hh 0 = W0 at w0
  generalize hW1 : v 1 - downI (v 0) (hh 0) * hh 3 = W1 at w1
  generalize hW2 : v 2 - downI (v 0) (hh 0) * hh 6 = W2 at w2
  -- the second
  have d1 : (downI W1 (hh 4)).toInt = gU a p (v 0).toInt (v 1).toInt / b := by rw [downI_toInt (by omega), t4, w1]
  have d1b : (gU a p (v 0).toInt (v 1).toInt / b).natAbs ≤ 500000 := Nat.le_trans (Int.natAbs_ediv_le_natAbs _ _) u1
  have m1 := Int.emod_add_mul_ediv (gU a p (v 0).toInt (v 1).toInt) b
  have m1a := gY_b (a := a) (p := p) hb (v 0).toInt (v 1).toInt
  have w3 : (W1 - downI W1 (hh 4) * hh 4).toInt = gY a b p (v 0).toInt (v 1).toInt := by
    have e : gU a p (v 0).toInt (v 1).toInt - gU a p (v 0).toInt (v 1).toInt / b * b = gY a b p (v 0).toInt (v 1).toInt := by
      rw [gY, Int.mul_comm]; omega
    rw [z_sub (by rw [d1, t4, w1, e]; omega), d1, t4, w1, e]
  have n3 := nb_mul d1b (show (r : Int).natAbs ≤ 24 by omega)
  have w4 : (W2 - downI W1 (hh 4) * hh 7).toInt = gV a b p q r (v 0).toInt (v 1).toInt (v 2).toInt := by
    have e : (v 2).toInt - (v 0).toInt / a * q - gU a p (v 0).toInt (v 1).toInt / b * r = gV a b p q r (v 0).toInt (v 1).toInt (v 2).toInt := rfl
    rw [z_sub (by rw [d1, t7, w2]; omega), d1, t7, w2, e]
  generalize hW3 : W1 - downI W1 (hh 4) * hh 4 = W3 at w3
  generalize hW4 : W2 - downI W1 (hh 4) * hh 7 = W4 at w4
  -- the third
  have d2 : (downI W4 (hh 8)).toInt = gV a b p q r (v 0).toInt (v 1).toInt (v 2).toInt / c := by rw [downI_toInt (by omega), t8, w4]
  have m2 := Int.emod_add_mul_ediv (gV a b p q r (v 0).toInt (v 1).toInt (v 2).toInt) c
  have m2a := gZ_b (a := a) (b := b) (p := p) (q := q) (r := r) hc (v 0).toInt (v 1).toInt (v 2).toInt
  have w5 : (W4 - downI W4 (hh 8) * hh 8).toInt = gZ a b c p q r (v 0).toInt (v 1).toInt (v 2).toInt := by
    have e : gV a b p q r (v 0).toInt (v 1).toInt (v 2).toInt - gV a b p q r (v 0).toInt (v 1).toInt (v 2).toInt / c * c = gZ a b c p q r (v 0).toInt (v 1).toInt (v 2).toInt := by
      rw [gZ, Int.mul_comm]; omega
    rw [z_sub (by rw [d2, t8, w4, e]; omega), d2, t8, w4, e]
  have x0 : elA hh 3 v 0 = W0 := by rw [← hW0]; rfl
  have x1 : elA hh 3 v 1 = W3 := by rw [← hW3, ← hW1]; rfl
  have x2 : elA hh 3 v 2 = W4 - downI W4 (hh 8) * hh 8 := by rw [← hW4, ← hW2, ← hW1]; rfl
  rw [elI, x0, x1, x2, h4, h8] at *
  rw [z_nat (x := W0) (by omega), z_nat (x := W3) (by omega), z_nat (x := W4 - downI W4 (nI c) * nI c) (by omega), w0, w3, w5, nI_m, nI_a, nI_m, nI_a, gN]
