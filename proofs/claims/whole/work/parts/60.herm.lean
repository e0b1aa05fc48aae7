/-! Hermite's form over whole numbers: bounds, the determinant, what its columns are multiples of -/
theorem exchA_j {j k i : Nat} (f : Nat → Int32) (hj : j < 3) (hk : k < 3) (hi : i < 3) (h : k ≠ j) : exchA j k f (3 * i + j) = f (3 * i + k) := by
  simp only [exchA, xfo_s, xfo_0]
  have : i = 0 ∨ i = 1 ∨ i = 2 := by omega
  rcases this with rfl | rfl | rfl
  · rw [xupd_ne (by omega), xupd_ne (by omega), xupd_ne (by omega), xupd_ne (by omega), xupd_ne (by omega), xupd_e2 _ _ rfl]
  · rw [xupd_ne (by omega), xupd_ne (by omega), xupd_ne (by omega), xupd_e2 _ _ rfl, xupd_ne (by omega), xupd_ne (by omega)]
  · rw [xupd_ne (by omega), xupd_e2 _ _ rfl, xupd_ne (by omega), xupd_ne (by omega), xupd_ne (by omega), xupd_ne (by omega)]
theorem exchA_o {j k c i : Nat} (f : Nat → Int32) (hj : j < 3) (hk : k < 3) (hc : c < 3) (hi : i < 3) (h1 : c ≠ j) (h2 : c ≠ k) : exchA j k f (3 * i + c) = f (3 * i + c) := by
  simp only [exchA, xfo_s, xfo_0]
  rw [xupd_ne (by omega), xupd_ne (by omega), xupd_ne (by omega), xupd_ne (by omega), xupd_ne (by omega), xupd_ne (by omega)]
theorem lessA_e {j i : Nat} (t : Int32) (f : Nat → Int32) (hj : j < 3) (hi : i < 3) : lessA j j t f (3 * i + j) = f (3 * i + j) - t * f (3 * i + j) := by
  simp only [lessA, xfo_s, xfo_0]
  have : i = 0 ∨ i = 1 ∨ i = 2 := by omega
  rcases this with rfl | rfl | rfl
  · rw [xupd_ne (by omega), xupd_ne (by omega), xupd_e2 _ _ rfl]
  · rw [xupd_ne (by omega), xupd_e2 _ _ rfl, xupd_ne (by omega)]
  · rw [xupd_e2 _ _ rfl, xupd_ne (by omega), xupd_ne (by omega)]
def euT (i j : Nat) (f : Nat → Int32) : Nat → Int32 := exchA i j (lessA i j (f (3 * i + i) / f (3 * i + j)) f)
theorem euT_i {i j r : Nat} (f : Nat → Int32) (hi : i < 3) (hj : j < 3) (hr : r < 3) (h : j ≠ i) : euT i j f (3 * r + i) = f (3 * r + j) := by
  rw [euT, exchA_j _ hi hj hr h, lessA_o _ _ hi hj hr h]
theorem euT_j {i j r : Nat} (f : Nat → Int32) (hi : i < 3) (hj : j < 3) (hr : r < 3) (h : j ≠ i) : euT i j f (3 * r + j) = f (3 * r + i) - f (3 * i + i) / f (3 * i + j) * f (3 * r + j) := by
  rw [euT, exchA_k _ hi hj hr h, lessA_j _ _ hi hj hr h]
theorem euT_o {i j c r : Nat} (f : Nat → Int32) (hi : i < 3) (hj : j < 3) (hc : c < 3) (hr : r < 3) (h1 : c ≠ i) (h2 : c ≠ j) : euT i j f (3 * r + c) = f (3 * r + c) := by
  rw [euT, exchA_o _ hi hj hc hr h1 h2, lessA_o _ _ hi hc hr h1]
theorem z_sub {x y t : Int32} (h : (x.toInt - t.toInt * y.toInt).natAbs < 2147483648) : (x - t * y).toInt = x.toInt - t.toInt * y.toInt := by
  rw [Int32.toInt_sub, Int32.toInt_mul, Int.sub_bmod_bmod]
  exact Int.bmod_eq_of_le (by omega) (by omega)
theorem z_subd {x y a b : Int32} (h : (x.toInt - a.toInt.tdiv b.toInt * y.toInt).natAbs < 2147483648) : (x - a / b * y).toInt = x.toInt - a.toInt.tdiv b.toInt * y.toInt := by
  rw [Int32.toInt_sub, Int32.toInt_mul, Int32.toInt_div, Int.bmod_mul_bmod, Int.sub_bmod_bmod]
  exact Int.bmod_eq_of_le (by omega) (by omega)
theorem nb_step (X Y A B : Int) : Y.natAbs * (A.tmod B).natAbs + (X - A.tdiv B * Y).natAbs * B.natAbs ≤ X.natAbs * B.natAbs + Y.natAbs * A.natAbs := by
  have h1 : (X - A.tdiv B * Y).natAbs ≤ X.natAbs + (A.tdiv B).natAbs * Y.natAbs := by
    have := Int.natAbs_sub_le X (A.tdiv B * Y)
    rwa [Int.natAbs_mul] at this
  have h2 : A.natAbs = B.natAbs * (A.tdiv B).natAbs + (A.tmod B).natAbs := by
    rw [Int.natAbs_tdiv, Int.natAbs_tmod]; exact (Nat.div_add_mod _ _).symm
  have h3 := Nat.mul_le_mul_right B.natAbs h1
  rw [Nat.add_mul] at h3
  have h4 : Y.natAbs * A.natAbs = (A.tdiv B).natAbs * Y.natAbs * B.natAbs + Y.natAbs * (A.tmod B).natAbs := by
    rw [h2, Nat.mul_add, Nat.mul_comm B.natAbs, ← Nat.mul_assoc, Nat.mul_comm Y.natAbs]
  omega
/-- the numbers of a matrix; its determinant; whether columns are multiples -/
def zi (f : Nat → Int32) : Nat → Int := fun k => (f k).toInt
def dtF (F : Nat → Int) : Int := F 0 * (F 4 * F 8 - F 5 * F 7) + F 1 * (F 5 * F 6 - F 3 * F 8) + F 2 * (F 3 * F 7 - F 4 * F 6)
def laF (C : Nat → Nat → Int) (D : Int) (F : Nat → Int) : Prop := ∀ c k, c < 3 → k < 3 → D ∣ C 0 k * F (3 * 0 + c) + C 1 k * F (3 * 1 + c) + C 2 k * F (3 * 2 + c)
theorem la_swap {C : Nat → Nat → Int} {D q : Int} {F F' : Nat → Int} {i j : Nat} (h : laF C D F) (hi : i < 3) (hj : j < 3) (h1 : ∀ r, r < 3 → F' (3 * r + i) = F (3 * r + j)) (h2 : ∀ r, r < 3 → F' (3 * r + j) = F (3 * r + i) - q * F (3 * r + j)) (h3 : ∀ r c, r < 3 → c < 3 → c ≠ i → c ≠ j → F' (3 * r + c) = F (3 * r + c)) : laF C D F' := by
  intro c k hc hk
  by_cases e1 : c = i
  · subst e1
    rw [h1 0 (by omega), h1 1 (by omega), h1 2 (by omega)]
    exact h j k hj hk
  · by_cases e2 : c = j
    · subst e2
      rw [h2 0 (by omega), h2 1 (by omega), h2 2 (by omega)]
      have e := Int.dvd_sub (h i k hi hk) (Int.dvd_mul_of_dvd_right (b := q) (h c k hc hk))
      refine (congrArg (fun z => D ∣ z) ?_).mp e
      grind
    · rw [h3 0 c (by omega) hc e1 e2, h3 1 c (by omega) hc e1 e2, h3 2 c (by omega) hc e1 e2]
      exact h c k hc hk
theorem la_less {C : Nat → Nat → Int} {D q : Int} {F F' : Nat → Int} {j k0 : Nat} (h : laF C D F) (hj : j < 3) (hk0 : k0 < 3) (h2 : ∀ r, r < 3 → F' (3 * r + j) = F (3 * r + j) - q * F (3 * r + k0)) (h3 : ∀ r c, r < 3 → c < 3 → c ≠ j → F' (3 * r + c) = F (3 * r + c)) : laF C D F' := by
  intro c k hc hk
  by_cases e2 : c = j
  · subst e2
    rw [h2 0 (by omega), h2 1 (by omega), h2 2 (by omega)]
    have e := Int.dvd_sub (h c k hc hk) (Int.dvd_mul_of_dvd_right (b := q) (h k0 k hk0 hk))
    refine (congrArg (fun z => D ∣ z) ?_).mp e
    grind
  · rw [h3 0 c (by omega) hc e2, h3 1 c (by omega) hc e2, h3 2 c (by omega) hc e2]
    exact h c k hc hk
theorem dt_swap {q : Int} {F F' : Nat → Int} {i j : Nat} (hij : i < j) (hj : j < 3) (h1 : ∀ r, r < 3 → F' (3 * r + i) = F (3 * r + j)) (h2 : ∀ r, r < 3 → F' (3 * r + j) = F (3 * r + i) - q * F (3 * r + j)) (h3 : ∀ r c, r < 3 → c < 3 → c ≠ i → c ≠ j → F' (3 * r + c) = F (3 * r + c)) : dtF F' = - dtF F := by
  have a0 := h1 0 (by omega)
  have a1 := h1 1 (by omega)
  have a2 := h1 2 (by omega)
  have b0 := h2 0 (by omega)
  have b1 := h2 1 (by omega)
  have b2 := h2 2 (by omega)
  have hc : (i = 0 ∧ j = 1) ∨ (i = 0 ∧ j = 2) ∨ (i = 1 ∧ j = 2) := by omega
  rcases hc with ⟨rfl, rfl⟩ | ⟨rfl, rfl⟩ | ⟨rfl, rfl⟩
  · have c0 := h3 0 2 (by omega) (by omega) (by omega) (by omega)
    have c1 := h3 1 2 (by omega) (by omega) (by omega) (by omega)
    have c2 := h3 2 2 (by omega) (by omega) (by omega) (by omega)
    simp only [Nat.reduceMul, Nat.reduceAdd] at a0 a1 a2 b0 b1 b2 c0 c1 c2
    simp only [dtF, a0, a1, a2, b0, b1, b2, c0, c1, c2]
    grind
  · have c0 := h3 0 1 (by omega) (by omega) (by omega) (by omega)
    have c1 := h3 1 1 (by omega) (by omega) (by omega) (by omega)
    have c2 := h3 2 1 (by omega) (by omega) (by omega) (by omega)
    simp only [Nat.reduceMul, Nat.reduceAdd] at a0 a1 a2 b0 b1 b2 c0 c1 c2
    simp only [dtF, a0, a1, a2, b0, b1, b2, c0, c1, c2]
    grind
  · have c0 := h3 0 0 (by omega) (by omega) (by omega) (by omega)
    have c1 := h3 1 0 (by omega) (by omega) (by omega) (by omega)
    have c2 := h3 2 0 (by omega) (by omega) (by omega) (by omega)
    simp only [Nat.reduceMul, Nat.reduceAdd] at a0 a1 a2 b0 b1 b2 c0 c1 c2
    simp only [dtF, a0, a1, a2, b0, b1, b2, c0, c1, c2]
    grind
theorem dt_less {q : Int} {F F' : Nat → Int} {j k : Nat} (hj : j < k) (hk : k < 3) (h2 : ∀ r, r < 3 → F' (3 * r + j) = F (3 * r + j) - q * F (3 * r + k)) (h3 : ∀ r c, r < 3 → c < 3 → c ≠ j → F' (3 * r + c) = F (3 * r + c)) : dtF F' = dtF F := by
  have a0 := h2 0 (by omega)
  have a1 := h2 1 (by omega)
  have a2 := h2 2 (by omega)
  have hc : (j = 0 ∧ k = 1) ∨ (j = 0 ∧ k = 2) ∨ (j = 1 ∧ k = 2) := by omega
  rcases hc with ⟨rfl, rfl⟩ | ⟨rfl, rfl⟩ | ⟨rfl, rfl⟩
  · have c0 := h3 0 2 (by omega) (by omega) (by omega)
    have c1 := h3 1 2 (by omega) (by omega) (by omega)
    have c2 := h3 2 2 (by omega) (by omega) (by omega)
    have d0 := h3 0 1 (by omega) (by omega) (by omega)
    have d1 := h3 1 1 (by omega) (by omega) (by omega)
    have d2 := h3 2 1 (by omega) (by omega) (by omega)
    simp only [Nat.reduceMul, Nat.reduceAdd] at a0 a1 a2 c0 c1 c2 d0 d1 d2
    simp only [dtF, a0, a1, a2, c0, c1, c2, d0, d1, d2]
    grind
  · have c0 := h3 0 2 (by omega) (by omega) (by omega)
    have c1 := h3 1 2 (by omega) (by omega) (by omega)
    have c2 := h3 2 2 (by omega) (by omega) (by omega)
    have d0 := h3 0 1 (by omega) (by omega) (by omega)
    have d1 := h3 1 1 (by omega) (by omega) (by omega)
    have d2 := h3 2 1 (by omega) (by omega) (by omega)
    simp only [Nat.reduceMul, Nat.reduceAdd] at a0 a1 a2 c0 c1 c2 d0 d1 d2
    simp only [dtF, a0, a1, a2, c0, c1, c2, d0, d1, d2]
    grind
  · have c0 := h3 0 2 (by omega) (by omega) (by omega)
    have c1 := h3 1 2 (by omega) (by omega) (by omega)
    have c2 := h3 2 2 (by omega) (by omega) (by omega)
    have d0 := h3 0 0 (by omega) (by omega) (by omega)
    have d1 := h3 1 0 (by omega) (by omega) (by omega)
    have d2 := h3 2 0 (by omega) (by omega) (by omega)
    simp only [Nat.reduceMul, Nat.reduceAdd] at a0 a1 a2 c0 c1 c2 d0 d1 d2
    simp only [dtF, a0, a1, a2, c0, c1, c2, d0, d1, d2]
    grind
theorem dt_sgn {F F' : Nat → Int} {j : Nat} (hj : j < 3) (h2 : ∀ r, r < 3 → F' (3 * r + j) = - F (3 * r + j)) (h3 : ∀ r c, r < 3 → c < 3 → c ≠ j → F' (3 * r + c) = F (3 * r + c)) : dtF F' = - dtF F := by
  have a0 := h2 0 (by omega)
  have a1 := h2 1 (by omega)
  have a2 := h2 2 (by omega)
  have hc : j = 0 ∨ j = 1 ∨ j = 2 := by omega
  rcases hc with rfl | rfl | rfl
  · have c0 := h3 0 2 (by omega) (by omega) (by omega)
    have c1 := h3 1 2 (by omega) (by omega) (by omega)
    have c2 := h3 2 2 (by omega) (by omega) (by omega)
    have d0 := h3 0 1 (by omega) (by omega) (by omega)
    have d1 := h3 1 1 (by omega) (by omega) (by omega)
    have d2 := h3 2 1 (by omega) (by omega) (by omega)
    simp only [Nat.reduceMul, Nat.reduceAdd] at a0 a1 a2 c0 c1 c2 d0 d1 d2
    simp only [dtF, a0, a1, a2, c0, c1, c2, d0, d1, d2]
    grind
  · have c0 := h3 0 2 (by omega) (by omega) (by omega)
    have c1 := h3 1 2 (by omega) (by omega) (by omega)
    have c2 := h3 2 2 (by omega) (by omega) (by omega)
    have d0 := h3 0 0 (by omega) (by omega) (by omega)
    have d1 := h3 1 0 (by omega) (by omega) (by omega)
    have d2 := h3 2 0 (by omega) (by omega) (by omega)
    simp only [Nat.reduceMul, Nat.reduceAdd] at a0 a1 a2 c0 c1 c2 d0 d1 d2
    simp only [dtF, a0, a1, a2, c0, c1, c2, d0, d1, d2]
    grind
  · have c0 := h3 0 1 (by omega) (by omega) (by omega)
    have c1 := h3 1 1 (by omega) (by omega) (by omega)
    have c2 := h3 2 1 (by omega) (by omega) (by omega)
    have d0 := h3 0 0 (by omega) (by omega) (by omega)
    have d1 := h3 1 0 (by omega) (by omega) (by omega)
    have d2 := h3 2 0 (by omega) (by omega) (by omega)
    simp only [Nat.reduceMul, Nat.reduceAdd] at a0 a1 a2 c0 c1 c2 d0 d1 d2
    simp only [dtF, a0, a1, a2, c0, c1, c2, d0, d1, d2]
    grind
/-- what a matrix keeps: its determinant without sign, what its columns are multiples of -/
def zK (C : Nat → Nat → Int) (D : Nat) (f : Nat → Int32) : Prop := (dtF (zi f)).natAbs = D ∧ laF C D (zi f)
def euP (i j A M N : Nat) (f0 f : Nat → Int32) : Prop :=
  ((f (3 * i + i)).toInt.natAbs ≤ A ∧ (f (3 * i + j)).toInt.natAbs ≤ A) ∧
  (∀ r, i < r → r < 3 → (f (3 * r + i)).toInt.natAbs * (f (3 * i + j)).toInt.natAbs + (f (3 * r + j)).toInt.natAbs * (f (3 * i + i)).toInt.natAbs ≤ M ∧ (f (3 * r + i)).toInt.natAbs ≤ N ∧ (f (3 * r + j)).toInt.natAbs ≤ N) ∧
  (∀ r, r < i → f (3 * r + i) = 0 ∧ f (3 * r + j) = 0) ∧
  (∀ r c, r < 3 → c < 3 → c ≠ i → c ≠ j → f (3 * r + c) = f0 (3 * r + c))
theorem euP_step {i j A M N : Nat} {f0 f : Nat → Int32} (hij : i < j) (hj : j < 3) (hMN : M ≤ N) (hA : A < 2147483648) (hN : N < 2147483648) (h : euP i j A M N f0 f) (h0 : f (3 * i + j) ≠ 0) : euP i j A M N f0 (euT i j f) ∧ ∀ r, r < 3 → (euT i j f (3 * r + j)).toInt = (f (3 * r + i)).toInt - (f (3 * i + i)).toInt.tdiv (f (3 * i + j)).toInt * (f (3 * r + j)).toInt := by
  have hi : i < 3 := by omega
  have hji : j ≠ i := by omega
  obtain ⟨⟨ha, hb⟩, hr, hz, ho⟩ := h
  have hb' : (f (3 * i + j)).toInt ≠ 0 := fun e => h0 (Int32.toInt_inj.mp e)
  have hmod : (f (3 * i + i)).toInt - (f (3 * i + i)).toInt.tdiv (f (3 * i + j)).toInt * (f (3 * i + j)).toInt = (f (3 * i + i)).toInt.tmod (f (3 * i + j)).toInt := by
    have := Int.mul_tdiv_add_tmod (f (3 * i + i)).toInt (f (3 * i + j)).toInt
    have := Int.mul_comm (f (3 * i + j)).toInt ((f (3 * i + i)).toInt.tdiv (f (3 * i + j)).toInt)
    omega
  have hlt : ((f (3 * i + i)).toInt.tmod (f (3 * i + j)).toInt).natAbs < (f (3 * i + j)).toInt.natAbs := by
    rw [Int.natAbs_tmod]; exact Nat.mod_lt _ (by omega)
  have hy : ∀ r, i < r → r < 3 → ((f (3 * r + i)).toInt - (f (3 * i + i)).toInt.tdiv (f (3 * i + j)).toInt * (f (3 * r + j)).toInt).natAbs ≤ M := by
    intro r h1 h2
    have e1 := nb_step (f (3 * r + i)).toInt (f (3 * r + j)).toInt (f (3 * i + i)).toInt (f (3 * i + j)).toInt
    have e2 := (hr r h1 h2).1
    have e3 : ((f (3 * r + i)).toInt - (f (3 * i + i)).toInt.tdiv (f (3 * i + j)).toInt * (f (3 * r + j)).toInt).natAbs ≤ ((f (3 * r + i)).toInt - (f (3 * i + i)).toInt.tdiv (f (3 * i + j)).toInt * (f (3 * r + j)).toInt).natAbs * (f (3 * i + j)).toInt.natAbs := Nat.le_mul_of_pos_right _ (by omega)
    omega
  have hJ : ∀ r, r < 3 → (euT i j f (3 * r + j)).toInt = (f (3 * r + i)).toInt - (f (3 * i + i)).toInt.tdiv (f (3 * i + j)).toInt * (f (3 * r + j)).toInt := by
    intro r hr3
    rw [euT_j _ hi hj hr3 hji]
    apply z_subd
    rcases Nat.lt_trichotomy r i with c | c | c
    · rw [(hz r c).1, (hz r c).2]; simp
    · subst c; rw [hmod]; omega
    · have := hy r c hr3; omega
  refine ⟨⟨⟨?_, ?_⟩, ?_, ?_, ?_⟩, hJ⟩
  · rw [euT_i _ hi hj hi hji]; exact hb
  · rw [hJ i hi, hmod]; omega
  · intro r h1 h2
    rw [euT_i _ hi hj h2 hji, euT_i _ hi hj hi hji, hJ i hi, hJ r h2, hmod]
    have e1 := nb_step (f (3 * r + i)).toInt (f (3 * r + j)).toInt (f (3 * i + i)).toInt (f (3 * i + j)).toInt
    have e2 := hr r h1 h2
    have e3 := hy r h1 h2
    exact ⟨by omega, e2.2.2, by omega⟩
  · intro r h1
    have h2 : r < 3 := by omega
    refine ⟨by rw [euT_i _ hi hj h2 hji]; exact (hz r h1).2, ?_⟩
    rw [euT_j _ hi hj h2 hji, (hz r h1).1, (hz r h1).2]
    simp
  · intro r c h1 h2 h3 h4
    rw [euT_o _ hi hj h2 h1 h3 h4]
    exact ho r c h1 h2 h3 h4
theorem zK_eu {C : Nat → Nat → Int} {D i j A M N : Nat} {f0 f : Nat → Int32} (hij : i < j) (hj : j < 3) (hMN : M ≤ N) (hA : A < 2147483648) (hN : N < 2147483648) (h : euP i j A M N f0 f) (h0 : f (3 * i + j) ≠ 0) (hk : zK C D f) : zK C D (euT i j f) := by
  have h1 := (euP_step hij hj hMN hA hN h h0).2
  have hi : i < 3 := by omega
  have hji : j ≠ i := by omega
  have e1 : ∀ r, r < 3 → zi (euT i j f) (3 * r + i) = zi f (3 * r + j) := fun r hr => by simp only [zi]; rw [euT_i _ hi hj hr hji]
  have e3 : ∀ r c, r < 3 → c < 3 → c ≠ i → c ≠ j → zi (euT i j f) (3 * r + c) = zi f (3 * r + c) := fun r c hr hc z1 z2 => by simp only [zi]; rw [euT_o _ hi hj hc hr z1 z2]
  refine ⟨?_, la_swap hk.2 hi hj e1 h1 e3⟩
  rw [dt_swap hij hj e1 h1 e3, Int.natAbs_neg]
  exact hk.1
theorem euA_all {C : Nat → Nat → Int} {D i j A M N : Nat} {f : Nat → Int32} (hij : i < j) (hj : j < 3) (hMN : M ≤ N) (hA : A < 2147483648) (hN : N < 2147483648) (h : euP i j A M N f f) (hk : zK C D f) : euP i j A M N f (euA i j f) ∧ zK C D (euA i j f) ∧ euA i j f (3 * i + j) = 0 := by
  have hf := xit_fin (st := euS i j) (μ := euM i j) (fun g => euP i j A M N f g ∧ zK C D g) (fun s s' hs e => by
    refine ⟨?_, euM_lt (by omega) hj (by omega) e⟩
    simp only [euS] at e
    split at e
    · exact absurd e (by simp)
    · rename_i h0
      have e := (Option.some.inj e).symm
      subst e
      exact ⟨(euP_step hij hj hMN hA hN hs.1 h0).1, zK_eu hij hj hMN hA hN hs.1 h0 hs.2⟩) (euM i j f) f ⟨h, hk⟩ (Nat.le_refl _)
  refine ⟨hf.1.1, hf.1.2, ?_⟩
  have h2 := hf.2
  simp only [euS] at h2
  split at h2
  · assumption
  · exact absurd h2 (by simp)
