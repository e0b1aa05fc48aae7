/-! the group by its basis of least rows: a; p b; q r c -/
def gX (a : Nat) (x : Int) : Int := x % a
def gU (a p : Nat) (x y : Int) : Int := y - x / a * p
def gY (a b p : Nat) (x y : Int) : Int := gU a p x y % b
def gV (a b p q r : Nat) (x y z : Int) : Int := z - x / a * q - gU a p x y / b * r
def gZ (a b c p q r : Nat) (x y z : Int) : Int := gV a b p q r x y z % c
def gN (a b c p q r : Nat) (x y z : Int) : Nat := ((gX a x).toNat * b + (gY a b p x y).toNat) * c + (gZ a b c p q r x y z).toNat
def l0 (b c e : Nat) : Nat := e / c / b
def l1 (b c e : Nat) : Nat := e / c % b
def l2 (c e : Nat) : Nat := e % c
section GG
variable {a b c p q r : Nat}
theorem gX_b (ha : 0 < a) (x : Int) : 0 ≤ gX a x ∧ gX a x < a := ⟨Int.emod_nonneg _ (by omega), Int.emod_lt_of_pos _ (by omega)⟩
theorem gY_b (hb : 0 < b) (x y : Int) : 0 ≤ gY a b p x y ∧ gY a b p x y < b := ⟨Int.emod_nonneg _ (by omega), Int.emod_lt_of_pos _ (by omega)⟩
theorem gZ_b (hc : 0 < c) (x y z : Int) : 0 ≤ gZ a b c p q r x y z ∧ gZ a b c p q r x y z < c := ⟨Int.emod_nonneg _ (by omega), Int.emod_lt_of_pos _ (by omega)⟩
theorem gX_s (x s : Int) (ha : 0 < a) : gX a (x + s * a) = gX a x := by
  rw [gX, gX, Int.add_mul_emod_self_right]
theorem dv_s (x s : Int) (ha : 0 < a) : (x + s * a) / a = x / a + s := Int.add_mul_ediv_right _ _ (by omega)
theorem gU_s (x y s u : Int) (ha : 0 < a) : gU a p (x + s * a) (y + s * p + u * b) = gU a p x y + u * b := by
  rw [gU, gU, dv_s x s ha, Int.add_mul]; omega
theorem gY_s (x y s u : Int) (ha : 0 < a) : gY a b p (x + s * a) (y + s * p + u * b) = gY a b p x y := by
  rw [gY, gY, gU_s x y s u ha, Int.add_mul_emod_self_right]
theorem gV_s (x y z s u w : Int) (ha : 0 < a) (hb : 0 < b) : gV a b p q r (x + s * a) (y + s * p + u * b) (z + s * q + u * r + w * c) = gV a b p q r x y z + w * c := by
  rw [gV, gV, dv_s x s ha, gU_s x y s u ha, Int.add_mul_ediv_right _ _ (by omega), Int.add_mul, Int.add_mul]; omega
theorem gZ_s (x y z s u w : Int) (ha : 0 < a) (hb : 0 < b) : gZ a b c p q r (x + s * a) (y + s * p + u * b) (z + s * q + u * r + w * c) = gZ a b c p q r x y z := by
  rw [gZ, gZ, gV_s x y z s u w ha hb, Int.add_mul_emod_self_right]
theorem gN_s (x y z s u w : Int) (ha : 0 < a) (hb : 0 < b) : gN a b c p q r (x + s * a) (y + s * p + u * b) (z + s * q + u * r + w * c) = gN a b c p q r x y z := by
  rw [gN, gN, gX_s x s ha, gY_s x y s u ha, gZ_s x y z s u w ha hb]
theorem gN_lt (ha : 0 < a) (hb : 0 < b) (hc : 0 < c) (x y z : Int) : gN a b c p q r x y z < a * b * c := by
  have h1 := gX_b ha x
  have h2 := gY_b (a := a) (p := p) hb x y
  have h3 := gZ_b (a := a) (b := b) (p := p) (q := q) (r := r) hc x y z
  have e1 : (gX a x).toNat * b + (gY a b p x y).toNat + 1 ≤ a * b := by
    have : ((gX a x).toNat + 1) * b ≤ a * b := Nat.mul_le_mul_right b (by omega)
    rw [Nat.add_mul] at this
    omega
  have e2 := Nat.mul_le_mul_right c e1
  rw [Nat.add_mul] at e2
  rw [gN]
  omega
theorem l_dec {i j k : Nat} (hj : j < b) (hk : k < c) : l0 b c ((i * b + j) * c + k) = i ∧ l1 b c ((i * b + j) * c + k) = j ∧ l2 c ((i * b + j) * c + k) = k := by
  have hc : 0 < c := by omega
  have hb : 0 < b := by omega
  have e1 : ((i * b + j) * c + k) / c = i * b + j := by
    rw [Nat.mul_comm, Nat.mul_add_div hc, Nat.div_eq_of_lt hk, Nat.add_zero]
  refine ⟨?_, ?_, ?_⟩
  · rw [l0, e1, Nat.mul_comm, Nat.mul_add_div hb, Nat.div_eq_of_lt hj, Nat.add_zero]
  · rw [l1, e1, Nat.mul_comm, Nat.mul_add_mod, Nat.mod_eq_of_lt hj]
  · rw [l2, Nat.mul_comm, Nat.mul_add_mod, Nat.mod_eq_of_lt hk]
theorem l_lt (hb : 0 < b) (hc : 0 < c) {e : Nat} (he : e < a * b * c) : l0 b c e < a ∧ l1 b c e < b ∧ l2 c e < c := by
  refine ⟨?_, Nat.mod_lt _ hb, Nat.mod_lt _ hc⟩
  rw [l0, Nat.div_div_eq_div_mul]
  apply Nat.div_lt_of_lt_mul
  rw [Nat.mul_comm c b, Nat.mul_comm, ← Nat.mul_assoc]
  exact he
theorem l_enc (hb : 0 < b) (hc : 0 < c) (e : Nat) : (l0 b c e * b + l1 b c e) * c + l2 c e = e := by
  rw [l0, l1, l2, Nat.mul_comm (e / c / b), Nat.div_add_mod, Nat.mul_comm, Nat.div_add_mod]
theorem gN_l (ha : 0 < a) (hb : 0 < b) (hc : 0 < c) {e : Nat} (he : e < a * b * c) : gN a b c p q r (l0 b c e) (l1 b c e) (l2 c e) = e := by
  obtain ⟨h0, h1, h2⟩ := l_lt hb hc he
  have e0 : (l0 b c e : Int) / a = 0 := Int.ediv_eq_zero_of_lt (by omega) (by omega)
  have e1 : gU a p (l0 b c e) (l1 b c e) = l1 b c e := by rw [gU, e0]; omega
  have e2 : (l1 b c e : Int) / b = 0 := Int.ediv_eq_zero_of_lt (by omega) (by omega)
  have e3 : gV a b p q r (l0 b c e) (l1 b c e) (l2 c e) = l2 c e := by rw [gV, e0, e1, e2]; omega
  rw [gN, gX, gY, gZ, e1, e3, Int.emod_eq_of_lt (by omega) (by omega), Int.emod_eq_of_lt (by omega) (by omega), Int.emod_eq_of_lt (by omega) (by omega), Int.toNat_natCast, Int.toNat_natCast, Int.toNat_natCast]
  exact l_enc hb hc e
/-- what is left of a row is the row less what the basis makes -/
theorem l_gN (ha : 0 < a) (hb : 0 < b) (hc : 0 < c) (x y z : Int) : ∃ s u w : Int, (l0 b c (gN a b c p q r x y z) : Int) = x + s * a ∧ (l1 b c (gN a b c p q r x y z) : Int) = y + s * p + u * b ∧ (l2 c (gN a b c p q r x y z) : Int) = z + s * q + u * r + w * c := by
  have h1 := gX_b ha x
  have h2 := gY_b (a := a) (p := p) hb x y
  have h3 := gZ_b (a := a) (b := b) (p := p) (q := q) (r := r) hc x y z
  obtain ⟨d0, d1, d2⟩ := l_dec (b := b) (c := c) (i := (gX a x).toNat) (j := (gY a b p x y).toNat) (k := (gZ a b c p q r x y z).toNat) (by omega) (by omega)
  refine ⟨-(x / a), -(gU a p x y / b), -(gV a b p q r x y z / c), ?_, ?_, ?_⟩
  · rw [gN, d0, Int.toNat_of_nonneg h1.1, gX]
    have := Int.emod_add_mul_ediv x a
    rw [Int.neg_mul, Int.mul_comm]
    omega
  · rw [gN, d1, Int.toNat_of_nonneg h2.1, gY]
    have := Int.emod_add_mul_ediv (gU a p x y) b
    rw [Int.neg_mul, Int.neg_mul, Int.mul_comm (gU a p x y / b)]
    have e : gU a p x y = y - x / a * p := rfl
    omega
  · rw [gN, d2, Int.toNat_of_nonneg h3.1, gZ]
    have := Int.emod_add_mul_ediv (gV a b p q r x y z) c
    rw [Int.neg_mul, Int.neg_mul, Int.neg_mul, Int.mul_comm (gV a b p q r x y z / c)]
    have e : gV a b p q r x y z = z - x / a * q - gU a p x y / b * r := rfl
    omega
/-- the sum of two elements -/
def gS (a b c p q r e o : Nat) : Nat := gN a b c p q r (l0 b c e + l0 b c o : Nat) (l1 b c e + l1 b c o : Nat) (l2 c e + l2 c o : Nat)
theorem gS_hom (ha : 0 < a) (hb : 0 < b) (hc : 0 < c) (x y z x' y' z' : Int) : gS a b c p q r (gN a b c p q r x y z) (gN a b c p q r x' y' z') = gN a b c p q r (x + x') (y + y') (z + z') := by
  obtain ⟨s, u, w, h1, h2, h3⟩ := l_gN (p := p) (q := q) (r := r) ha hb hc x y z
  obtain ⟨s', u', w', h1', h2', h3'⟩ := l_gN (p := p) (q := q) (r := r) ha hb hc x' y' z'
  rw [gS, Int.natCast_add, Int.natCast_add, Int.natCast_add, h1, h2, h3, h1', h2', h3', ← gN_s (x + x') (y + y') (z + z') (s + s') (u + u') (w + w') ha hb]
  have e1 : x + s * a + (x' + s' * a) = x + x' + (s + s') * a := by rw [Int.add_mul]; omega
  have e2 : y + s * p + u * b + (y' + s' * p + u' * b) = y + y' + (s + s') * p + (u + u') * b := by rw [Int.add_mul, Int.add_mul]; omega
  have e3 : z + s * q + u * r + w * c + (z' + s' * q + u' * r + w' * c) = z + z' + (s + s') * q + (u + u') * r + (w + w') * c := by rw [Int.add_mul, Int.add_mul, Int.add_mul]; omega
  rw [e1, e2, e3]
end GG
/-- a group of so many elements; 0 is its nought -/
def gLaw (D : Nat) (S : Nat → Nat → Nat) : Prop := (∀ e o, e < D → o < D → S e o < D) ∧ (∀ e o, S e o = S o e) ∧ (∀ e, e < D → S 0 e = e) ∧ (∀ e o k, e < D → o < D → k < D → S (S e o) k = S e (S o k)) ∧ (∀ e, e < D → ∃ k, k < D ∧ S k e = 0)
theorem gS_law {a b c p q r : Nat} (ha : 0 < a) (hb : 0 < b) (hc : 0 < c) : gLaw (a * b * c) (gS a b c p q r) := by
  have hl : ∀ e, e < a * b * c → gN a b c p q r (l0 b c e) (l1 b c e) (l2 c e) = e := fun e he => gN_l ha hb hc he
  have h0 : gN a b c p q r 0 0 0 = 0 := by
    simp [gN, gX, gY, gZ, gU, gV]
  have hD : 0 < a * b * c := Nat.mul_pos (Nat.mul_pos ha hb) hc
  refine ⟨fun e o _ _ => gN_lt ha hb hc _ _ _, fun e o => ?_, fun e he => ?_, fun e o k he ho hk => ?_, fun e he => ?_⟩
  · rw [gS, gS, Nat.add_comm (l0 b c e), Nat.add_comm (l1 b c e), Nat.add_comm (l2 c e)]
  · have := gS_hom (p := p) (q := q) (r := r) ha hb hc 0 0 0 (l0 b c e) (l1 b c e) (l2 c e)
    rw [h0, hl e he, Int.zero_add, Int.zero_add, Int.zero_add, hl e he] at this
    exact this
  · have e1 : gS a b c p q r e o = gN a b c p q r (l0 b c e + l0 b c o) (l1 b c e + l1 b c o) (l2 c e + l2 c o) := by
      rw [gS, Int.natCast_add, Int.natCast_add, Int.natCast_add]
    have e2 : gS a b c p q r o k = gN a b c p q r (l0 b c o + l0 b c k) (l1 b c o + l1 b c k) (l2 c o + l2 c k) := by
      rw [gS, Int.natCast_add, Int.natCast_add, Int.natCast_add]
    rw [e1, e2]
    conv => lhs; rw [← hl k hk]
    conv => rhs; rw [← hl e he]
    rw [gS_hom ha hb hc, gS_hom ha hb hc, Int.add_assoc, Int.add_assoc, Int.add_assoc]
  · refine ⟨gN a b c p q r (-(l0 b c e)) (-(l1 b c e)) (-(l2 c e)), gN_lt ha hb hc _ _ _, ?_⟩
    have := gS_hom (p := p) (q := q) (r := r) ha hb hc (-(l0 b c e)) (-(l1 b c e)) (-(l2 c e)) (l0 b c e) (l1 b c e) (l2 c e)
    rw [hl e he, Int.add_left_neg, Int.add_left_neg, Int.add_left_neg, h0] at this
    exact this
