/-! Hermite's form: signs, what is left of the rows, all of it -/
theorem z_eq0 {x : Int32} (h : x.toInt.natAbs = 0) : x = 0 := Int32.toInt_inj.mp (by rw [Int32.toInt_zero]; omega)
theorem sgn_all {C : Nat → Nat → Int} {D i N : Nat} {f : Nat → Int32} (hi : i < 3) (hN : N < 2147483648) (hb : ∀ r, r < 3 → (f (3 * r + i)).toInt.natAbs ≤ N) (hk : zK C D f) :
    zK C D (sgnA i f) ∧ (∀ r, r < 3 → (sgnA i f (3 * r + i)).toInt.natAbs = (f (3 * r + i)).toInt.natAbs) ∧ (∀ r c, r < 3 → c < 3 → c ≠ i → sgnA i f (3 * r + c) = f (3 * r + c)) ∧ 0 ≤ (sgnA i f (3 * i + i)).toInt := by
  by_cases c : f (3 * i + i) < 0
  · have hs : sgnA i f = lessA i i (nI 2) f := by rw [sgnA, if_pos c]
    rw [hs]
    have h2 : (nI 2).toInt = 2 := by decide
    have e1 : ∀ r, r < 3 → (lessA i i (nI 2) f (3 * r + i)).toInt = (f (3 * r + i)).toInt - 2 * (f (3 * r + i)).toInt := by
      intro r hr
      rw [lessA_e _ _ hi hr]
      have := hb r hr
      have e := z_sub (x := f (3 * r + i)) (y := f (3 * r + i)) (t := nI 2) (by rw [h2]; omega)
      rw [h2] at e
      exact e
    have e3 : ∀ r c, r < 3 → c < 3 → c ≠ i → lessA i i (nI 2) f (3 * r + c) = f (3 * r + c) := fun r c hr hc hne => lessA_o _ _ hi hc hr hne
    have e3' : ∀ r c, r < 3 → c < 3 → c ≠ i → zi (lessA i i (nI 2) f) (3 * r + c) = zi f (3 * r + c) := fun r c hr hc hne => congrArg Int32.toInt (e3 r c hr hc hne)
    have c' : (f (3 * i + i)).toInt < 0 := Int32.lt_iff_toInt_lt.mp c
    refine ⟨⟨?_, la_less hk.2 hi hi e1 e3'⟩, fun r hr => by rw [e1 r hr]; omega, e3, by rw [e1 i hi]; omega⟩
    rw [dt_sgn hi (fun r hr => by show (lessA i i (nI 2) f (3 * r + i)).toInt = - (f (3 * r + i)).toInt; rw [e1 r hr]; omega) e3', Int.natAbs_neg]
    exact hk.1
  · have hs : sgnA i f = f := by rw [sgnA, if_neg c]
    rw [hs]
    have c' : ¬ (f (3 * i + i)).toInt < 0 := fun z => c (Int32.lt_iff_toInt_lt.mpr z)
    exact ⟨hk, fun _ _ => rfl, fun _ _ _ _ _ => rfl, by omega⟩
theorem downI_toInt {a b : Int32} (hb : 0 < b.toInt) : (downI a b).toInt = a.toInt / b.toInt := by
  have hb0 : ¬ b = 0 := fun e => by rw [e] at hb; exact absurd hb (by decide)
  have hm := xrem_toInt (a := a) hb0
  have e1 := Int.mul_tdiv_add_tmod a.toInt b.toInt
  have e2 : (a.toInt.tmod b.toInt).natAbs < b.toInt.natAbs := by rw [Int.natAbs_tmod]; exact Nat.mod_lt _ (by omega)
  have ha1 := Int32.le_toInt a
  have ha2 := Int32.toInt_lt a
  have hq : (a.toInt.tdiv b.toInt).natAbs ≤ a.toInt.natAbs := by rw [Int.natAbs_tdiv]; exact Nat.div_le_self _ _
  have hd : (a / b).toInt = a.toInt.tdiv b.toInt := by
    rw [Int32.toInt_div]
    refine Int.bmod_eq_of_le (by omega) ?_
    by_cases c : 0 ≤ a.toInt
    · omega
    · have := Int.tdiv_nonneg (a := -a.toInt) (b := b.toInt) (by omega) (by omega)
      rw [Int.neg_tdiv] at this
      omega
  by_cases c : xrem a b < 0
  · have c' : a.toInt.tmod b.toInt < 0 := by rw [← hm]; exact Int32.lt_iff_toInt_lt.mp c
    have u := (Int.ediv_emod_unique (a := a.toInt) (b := b.toInt) (q := a.toInt.tdiv b.toInt - 1) (r := a.toInt.tmod b.toInt + b.toInt) hb).mpr ⟨by rw [Int.mul_sub]; omega, by omega, by omega⟩
    have hq2 : -1073741825 < a.toInt.tdiv b.toInt := by
      have h2 : 2 ≤ b.toInt := by
        rcases Int.lt_or_le b.toInt 2 with z | z
        · have : b.toInt = 1 := by omega
          rw [this] at e2 c'
          omega
        · exact z
      have h3 : (a.toInt.tdiv b.toInt).natAbs ≤ a.toInt.natAbs / 2 := by
        rw [Int.natAbs_tdiv]
        exact Nat.div_le_div_left (by omega) (by omega)
      omega
    rw [downI, if_pos c, Int32.toInt_sub, hd, show (1 : Int32).toInt = 1 by decide, u.1]
    exact Int.bmod_eq_of_le (by omega) (by omega)
  · have c' : ¬ a.toInt.tmod b.toInt < 0 := fun z => c (Int32.lt_iff_toInt_lt.mpr (by rw [hm]; exact z))
    have u := (Int.ediv_emod_unique (a := a.toInt) (b := b.toInt) (q := a.toInt.tdiv b.toInt) (r := a.toInt.tmod b.toInt) hb).mpr ⟨by omega, by omega, by omega⟩
    rw [downI, if_neg c, hd, u.1]
theorem red_one {C : Nat → Nat → Int} {D i j N : Nat} {f : Nat → Int32} (hji : j < i) (hi : i < 3) (hN : N < 2147483648) (hp : 0 < (f (3 * i + i)).toInt) (hz : ∀ r, r < i → f (3 * r + i) = 0)
    (hbig : ∀ r, i < r → r < 3 → ((f (3 * r + j)).toInt - (f (3 * i + j)).toInt / (f (3 * i + i)).toInt * (f (3 * r + i)).toInt).natAbs ≤ N) (hk : zK C D f) :
    zK C D (lessA j i (downI (f (3 * i + j)) (f (3 * i + i))) f) ∧ (lessA j i (downI (f (3 * i + j)) (f (3 * i + i))) f (3 * i + j)).toInt = (f (3 * i + j)).toInt % (f (3 * i + i)).toInt ∧
    (∀ r, r < i → lessA j i (downI (f (3 * i + j)) (f (3 * i + i))) f (3 * r + j) = f (3 * r + j)) ∧ (∀ r, i < r → r < 3 → (lessA j i (downI (f (3 * i + j)) (f (3 * i + i))) f (3 * r + j)).toInt.natAbs ≤ N) ∧
    (∀ r c, r < 3 → c < 3 → c ≠ j → lessA j i (downI (f (3 * i + j)) (f (3 * i + i))) f (3 * r + c) = f (3 * r + c)) := by
  have hj : j < 3 := by omega
  have hij : i ≠ j := by omega
  have ht := downI_toInt (a := f (3 * i + j)) hp
  have hm := Int.emod_add_mul_ediv (f (3 * i + j)).toInt (f (3 * i + i)).toInt
  have hm1 := Int.emod_nonneg (f (3 * i + j)).toInt (b := (f (3 * i + i)).toInt) (by omega)
  have hm2 := Int.emod_lt_of_pos (f (3 * i + j)).toInt hp
  have hr1 := Int32.toInt_lt (f (3 * i + i))
  have hmc := Int.mul_comm (f (3 * i + i)).toInt ((f (3 * i + j)).toInt / (f (3 * i + i)).toInt)
  have e1 : ∀ r, r < 3 → (lessA j i (downI (f (3 * i + j)) (f (3 * i + i))) f (3 * r + j)).toInt = (f (3 * r + j)).toInt - (f (3 * i + j)).toInt / (f (3 * i + i)).toInt * (f (3 * r + i)).toInt := by
    intro r hr
    rw [lessA_j _ _ hj hi hr hij]
    rcases Nat.lt_trichotomy r i with c | c | c
    · rw [hz r c]; simp
    · subst c
      rw [← ht]; apply z_sub; rw [ht]; omega
    · have := hbig r c hr
      rw [← ht]; apply z_sub; rw [ht]; omega
  have e3 : ∀ r c, r < 3 → c < 3 → c ≠ j → lessA j i (downI (f (3 * i + j)) (f (3 * i + i))) f (3 * r + c) = f (3 * r + c) := fun r c hr hc hne => lessA_o _ _ hj hc hr hne
  have e3' : ∀ r c, r < 3 → c < 3 → c ≠ j → zi (lessA j i (downI (f (3 * i + j)) (f (3 * i + i))) f) (3 * r + c) = zi f (3 * r + c) := fun r c hr hc hne => congrArg Int32.toInt (e3 r c hr hc hne)
  refine ⟨⟨?_, la_less hk.2 hj hi e1 e3'⟩, by rw [e1 i hi]; omega, fun r hr => ?_, fun r h1 h2 => by rw [e1 r h2]; exact hbig r h1 h2, e3⟩
  · rw [dt_less hji hi e1 e3']; exact hk.1
  · rw [lessA_j _ _ hj hi (by omega) hij, hz r hr]; simp
theorem z_nat {x : Int32} (h : 0 ≤ x.toInt) : x = nI x.toInt.toNat := by
  have := Int32.toInt_lt x
  apply Int32.toInt_inj.mp
  rw [nI_toInt (by omega)]
  omega
theorem mul_ne0 {a b : Int} {D : Nat} (h : (a * b).natAbs = D) (hD : 0 < D) : a ≠ 0 ∧ b ≠ 0 := by
  constructor
  · rintro rfl; simp at h; omega
  · rintro rfl; simp at h; omega
/-- all of Hermite's form -/
theorem herm_ok {C : Nat → Nat → Int} {D : Nat} {f : Nat → Int32} (hb : ∀ k, k < 9 → (f k).toInt.natAbs ≤ 9) (hD : 0 < D) (hk : zK C D f) :
    (∀ i, i < 3 → sgnA i (colA i (hermA i f)) (3 * i + i) ≠ 0) ∧ ∃ a b c p q r : Nat, (hermA 3 f 0 = nI a ∧ hermA 3 f 1 = 0 ∧ hermA 3 f 2 = 0 ∧ hermA 3 f 3 = nI p ∧ hermA 3 f 4 = nI b ∧ hermA 3 f 5 = 0 ∧ hermA 3 f 6 = nI q ∧ hermA 3 f 7 = nI r ∧ hermA 3 f 8 = nI c) ∧ a * b * c = D ∧ p < b ∧ q < c ∧ r < c ∧ laF C D (zi (hermA 3 f)) := by
  -- first row
  obtain ⟨q1, k1, z1⟩ := euA_all (C := C) (D := D) (i := 0) (j := 1) (A := 9) (M := 162) (N := 162) (f := f) (by omega) (by omega) (by omega) (by omega) (by omega)
    ⟨⟨hb 0 (by omega), hb 1 (by omega)⟩, fun r h1 h2 => ⟨by
      have e1 := Nat.mul_le_mul (hb (3 * r + 0) (by omega)) (hb 1 (by omega))
      have e2 := Nat.mul_le_mul (hb (3 * r + 1) (by omega)) (hb 0 (by omega))
      exact Nat.le_trans (Nat.add_le_add e1 e2) (by omega), Nat.le_trans (hb _ (by omega)) (by omega), Nat.le_trans (hb _ (by omega)) (by omega)⟩, fun r hr => by omega, fun _ _ _ _ _ _ => rfl⟩ hk
  generalize hf1 : euA 0 1 f = f1 at q1 k1 z1
  obtain ⟨⟨a1, -⟩, r1, -, o1⟩ := q1
  have o12 : ∀ r, r < 3 → f1 (3 * r + 2) = f (3 * r + 2) := fun r hr => o1 r 2 hr (by omega) (by omega) (by omega)
  have b1 : ∀ r, r < 3 → (f1 (3 * r + 2)).toInt.natAbs ≤ 9 := fun r hr => by rw [o12 r hr]; exact hb _ (by omega)
  obtain ⟨q2, k2, z2⟩ := euA_all (C := C) (D := D) (i := 0) (j := 2) (A := 9) (M := 1539) (N := 1539) (f := f1) (by omega) (by omega) (by omega) (by omega) (by omega)
    ⟨⟨a1, b1 0 (by omega)⟩, fun r h1 h2 => ⟨by
      have e1 := Nat.mul_le_mul (r1 r h1 h2).2.1 (b1 0 (by omega))
      have e2 := Nat.mul_le_mul (b1 r h2) a1
      exact Nat.le_trans (Nat.add_le_add e1 e2) (by omega), Nat.le_trans (r1 r h1 h2).2.1 (by omega), Nat.le_trans (b1 r h2) (by omega)⟩, fun r hr => by omega, fun _ _ _ _ _ _ => rfl⟩ k1
  generalize hf2 : euA 0 2 f1 = f2 at q2 k2 z2
  obtain ⟨⟨a2, -⟩, r2, -, o2⟩ := q2
  have o21 : ∀ r, r < 3 → f2 (3 * r + 1) = f1 (3 * r + 1) := fun r hr => o2 r 1 hr (by omega) (by omega) (by omega)
  have b2 : ∀ r, r < 3 → (f2 (3 * r + 0)).toInt.natAbs ≤ 1539 := fun r hr => by
    by_cases c : r = 0
    · subst c; exact Nat.le_trans a2 (by omega)
    · exact (r2 r (by omega) hr).2.1
  obtain ⟨k3, n3, o3, p3⟩ := sgn_all (N := 1539) (i := 0) (by omega) (by omega) b2 k2
  generalize hf3 : sgnA 0 f2 = f3 at k3 n3 o3 p3
  have f3_1 : f3 1 = 0 := (o3 0 1 (by omega) (by omega) (by omega)).trans ((o21 0 (by omega)).trans z1)
  have f3_2 : f3 2 = 0 := (o3 0 2 (by omega) (by omega) (by omega)).trans z2
  have hH1 : hermA 1 f = f3 := by rw [← hf3, ← hf2, ← hf1]; rfl
  have hc0 : colA 0 (hermA 0 f) = f2 := by rw [← hf2, ← hf1]; rfl
  -- second row
  have c4 : (f3 4).toInt.natAbs ≤ 162 := by
    have e : f3 4 = f1 4 := (o3 1 1 (by omega) (by omega) (by omega)).trans (o21 1 (by omega))
    rw [e]; exact (r1 1 (by omega) (by omega)).2.2
  have c7 : (f3 7).toInt.natAbs ≤ 162 := by
    have e : f3 7 = f1 7 := (o3 2 1 (by omega) (by omega) (by omega)).trans (o21 2 (by omega))
    rw [e]; exact (r1 2 (by omega) (by omega)).2.2
  have c5 : (f3 5).toInt.natAbs ≤ 1539 := by
    have e : f3 5 = f2 5 := o3 1 2 (by omega) (by omega) (by omega)
    rw [e]; exact (r2 1 (by omega) (by omega)).2.2
  have c8 : (f3 8).toInt.natAbs ≤ 1539 := by
    have e : f3 8 = f2 8 := o3 2 2 (by omega) (by omega) (by omega)
    rw [e]; exact (r2 2 (by omega) (by omega)).2.2
  have c3 : (f3 3).toInt.natAbs ≤ 1539 := by rw [n3 1 (by omega)]; exact b2 1 (by omega)
  have c6 : (f3 6).toInt.natAbs ≤ 1539 := by rw [n3 2 (by omega)]; exact b2 2 (by omega)
  obtain ⟨q4, k4, z4⟩ := euA_all (C := C) (D := D) (i := 1) (j := 2) (A := 1539) (M := 498636) (N := 498636) (f := f3) (by omega) (by omega) (by omega) (by omega) (by omega)
    ⟨⟨Nat.le_trans c4 (by omega), c5⟩, fun r h1 h2 => by
      have : r = 2 := by omega
      subst this
      have e1 := Nat.mul_le_mul c7 c5
      have e2 := Nat.mul_le_mul c8 c4
      exact ⟨Nat.le_trans (Nat.add_le_add e1 e2) (by omega), Nat.le_trans c7 (by omega), Nat.le_trans c8 (by omega)⟩, fun r hr => by
      have : r = 0 := by omega
      subst this
      exact ⟨f3_1, f3_2⟩, fun _ _ _ _ _ _ => rfl⟩ k3
  generalize hf4 : euA 1 2 f3 = f4 at q4 k4 z4
  obtain ⟨⟨a4, -⟩, r4, y4, o4⟩ := q4
  have o40 : ∀ r, r < 3 → f4 (3 * r + 0) = f3 (3 * r + 0) := fun r hr => o4 r 0 hr (by omega) (by omega) (by omega)
  obtain ⟨k5, n5, o5, p5⟩ := sgn_all (N := 498636) (i := 1) (f := f4) (by omega) (by omega) (fun r hr => by
    have hc : r = 0 ∨ r = 1 ∨ r = 2 := by omega
    rcases hc with rfl | rfl | rfl
    · rw [(y4 0 (by omega)).1]; simp
    · exact Nat.le_trans a4 (by omega)
    · exact (r4 2 (by omega) (by omega)).2.1) k4
  generalize hf5 : sgnA 1 f4 = f5 at k5 n5 o5 p5
  have f5_0 : f5 0 = f3 0 := (o5 0 0 (by omega) (by omega) (by omega)).trans (o40 0 (by omega))
  have f5_3 : f5 3 = f3 3 := (o5 1 0 (by omega) (by omega) (by omega)).trans (o40 1 (by omega))
  have f5_6 : f5 6 = f3 6 := (o5 2 0 (by omega) (by omega) (by omega)).trans (o40 2 (by omega))
  have f5_1 : f5 1 = 0 := z_eq0 (by rw [n5 0 (by omega), (y4 0 (by omega)).1]; rfl)
  have f5_2 : f5 2 = 0 := (o5 0 2 (by omega) (by omega) (by omega)).trans (y4 0 (by omega)).2
  have f5_5 : f5 5 = 0 := (o5 1 2 (by omega) (by omega) (by omega)).trans z4
  have d5 : (f5 0).toInt ≠ 0 ∧ (f5 4).toInt ≠ 0 ∧ (f5 8).toInt ≠ 0 := by
    have e := k5.1
    simp only [dtF, zi, f5_1, f5_2, f5_5, Int32.toInt_zero, Int.zero_mul, Int.sub_zero, Int.add_zero] at e
    obtain ⟨e1, e2⟩ := mul_ne0 e hD
    exact ⟨e1, fun z => e2 (by rw [z, Int.zero_mul]), fun z => e2 (by rw [z, Int.mul_zero])⟩
  have p5' : 0 < (f5 4).toInt := by have := d5.2.1; have : 0 ≤ (f5 4).toInt := p5; omega
  have c57 : (f5 7).toInt.natAbs ≤ 498636 := by rw [n5 2 (by omega)]; exact (r4 2 (by omega) (by omega)).2.1
  obtain ⟨k6, m6, u6, v6, o6⟩ := red_one (N := 767402343) (i := 1) (j := 0) (f := f5) (by omega) (by omega) (by omega) p5' (fun r hr => by
    have : r = 0 := by omega
    subst this
    exact f5_1) (fun r h1 h2 => by
    have : r = 2 := by omega
    subst this
    have e1 : ((f5 3).toInt / (f5 4).toInt).natAbs ≤ 1539 := Nat.le_trans (Int.natAbs_ediv_le_natAbs _ _) (by rw [f5_3]; exact c3)
    have e2 := Int.natAbs_sub_le (f5 6).toInt ((f5 3).toInt / (f5 4).toInt * (f5 7).toInt)
    rw [Int.natAbs_mul] at e2
    have e3 := Nat.mul_le_mul e1 c57
    have e4 : (f5 6).toInt.natAbs ≤ 1539 := by rw [f5_6]; exact c6
    exact Nat.le_trans e2 (by omega)) k5
  generalize hf6 : lessA 0 1 (downI (f5 (3 * 1 + 0)) (f5 (3 * 1 + 1))) f5 = f6 at k6 m6 u6 v6 o6
  have hH2 : hermA 2 f = f6 := by
    rw [hermA_s, hH1, rowA]
    rw [show colA 1 f3 = f4 from hf4, hf5, ← hf6]
    rfl
  have hc1 : colA 1 (hermA 1 f) = f4 := by rw [hH1]; exact hf4
  -- third row
  have f6_8 : f6 8 = f5 8 := o6 2 2 (by omega) (by omega) (by omega)
  obtain ⟨k7, n7, o7, p7⟩ := sgn_all (N := 2147483647) (i := 2) (f := f6) (by omega) (by omega) (fun r hr => by
    have hc : r = 0 ∨ r = 1 ∨ r = 2 := by omega
    rcases hc with rfl | rfl | rfl
    · rw [o6 0 2 (by omega) (by omega) (by omega), show f5 (3 * 0 + 2) = 0 from f5_2]; simp
    · rw [o6 1 2 (by omega) (by omega) (by omega), show f5 (3 * 1 + 2) = 0 from f5_5]; simp
    · rw [o6 2 2 (by omega) (by omega) (by omega), o5 2 2 (by omega) (by omega) (by omega)]
      exact Nat.le_trans (r4 2 (by omega) (by omega)).2.2 (by omega)) k6
  generalize hf7 : sgnA 2 f6 = f7 at k7 n7 o7 p7
  have f7_2 : f7 2 = 0 := z_eq0 (by rw [n7 0 (by omega), o6 0 2 (by omega) (by omega) (by omega), show f5 (3 * 0 + 2) = 0 from f5_2]; rfl)
  have f7_5 : f7 5 = 0 := z_eq0 (by rw [n7 1 (by omega), o6 1 2 (by omega) (by omega) (by omega), show f5 (3 * 1 + 2) = 0 from f5_5]; rfl)
  have p7' : 0 < (f7 8).toInt := by
    have e1 := n7 2 (by omega)
    have e2 : (f6 8).toInt ≠ 0 := by rw [f6_8]; exact d5.2.2
    have e1 : (f7 8).toInt.natAbs = (f6 8).toInt.natAbs := e1
    have : 0 ≤ (f7 8).toInt := p7
    omega
  obtain ⟨k8, m8, u8, -, o8⟩ := red_one (N := 0) (i := 2) (j := 0) (f := f7) (by omega) (by omega) (by omega) p7' (fun r hr => by
    have hc : r = 0 ∨ r = 1 := by omega
    rcases hc with rfl | rfl
    · exact f7_2
    · exact f7_5) (fun r h1 h2 => by omega) k7
  generalize hf8 : lessA 0 2 (downI (f7 (3 * 2 + 0)) (f7 (3 * 2 + 2))) f7 = f8 at k8 m8 u8 o8
  have f8_8 : f8 8 = f7 8 := o8 2 2 (by omega) (by omega) (by omega)
  have p8' : 0 < (f8 (3 * 2 + 2)).toInt := by rw [show f8 (3 * 2 + 2) = f7 8 from f8_8]; exact p7'
  obtain ⟨k9, m9, u9, -, o9⟩ := red_one (N := 0) (i := 2) (j := 1) (f := f8) (by omega) (by omega) (by omega) p8' (fun r hr => by
    have hc : r = 0 ∨ r = 1 := by omega
    rcases hc with rfl | rfl
    · rw [o8 0 2 (by omega) (by omega) (by omega)]; exact f7_2
    · rw [o8 1 2 (by omega) (by omega) (by omega)]; exact f7_5) (fun r h1 h2 => by omega) k8
  generalize hf9 : lessA 1 2 (downI (f8 (3 * 2 + 1)) (f8 (3 * 2 + 2))) f8 = f9 at k9 m9 u9 o9
  have hH3 : hermA 3 f = f9 := by
    rw [hermA_s, hH2, rowA]
    rw [show colA 2 f6 = f6 from rfl, hf7, ← hf9, ← hf8]
    rfl
  have hc2 : colA 2 (hermA 2 f) = f6 := by rw [hH2]; rfl
  refine ⟨?_, ?_⟩
  · intro i hi
    have hc : i = 0 ∨ i = 1 ∨ i = 2 := by omega
    rcases hc with rfl | rfl | rfl
    · rw [hc0, hf3]; intro z; exact d5.1 (by rw [f5_0]; rw [show f3 (3 * 0 + 0) = f3 0 from rfl] at z; rw [z]; rfl)
    · rw [hc1, hf5]; intro z; exact d5.2.1 (by rw [show f5 (3 * 1 + 1) = f5 4 from rfl] at z; rw [z]; rfl)
    · rw [hc2, hf7]; intro z; rw [show f7 (3 * 2 + 2) = f7 8 from rfl] at z; rw [z] at p7'; exact absurd p7' (by decide)
  · rw [hH3]
    have g0 : f9 0 = f5 0 := (o9 0 0 (by omega) (by omega) (by omega)).trans ((u8 0 (by omega)).trans ((o7 0 0 (by omega) (by omega) (by omega)).trans (u6 0 (by omega))))
    have g3 : f9 3 = f6 3 := (o9 1 0 (by omega) (by omega) (by omega)).trans ((u8 1 (by omega)).trans (o7 1 0 (by omega) (by omega) (by omega)))
    have g6 : f9 6 = f8 6 := o9 2 0 (by omega) (by omega) (by omega)
    have g1 : f9 1 = f5 1 := (u9 0 (by omega)).trans ((o8 0 1 (by omega) (by omega) (by omega)).trans ((o7 0 1 (by omega) (by omega) (by omega)).trans (o6 0 1 (by omega) (by omega) (by omega))))
    have g4 : f9 4 = f5 4 := (u9 1 (by omega)).trans ((o8 1 1 (by omega) (by omega) (by omega)).trans ((o7 1 1 (by omega) (by omega) (by omega)).trans (o6 1 1 (by omega) (by omega) (by omega))))
    have g2 : f9 2 = 0 := (o9 0 2 (by omega) (by omega) (by omega)).trans ((o8 0 2 (by omega) (by omega) (by omega)).trans f7_2)
    have g5 : f9 5 = 0 := (o9 1 2 (by omega) (by omega) (by omega)).trans ((o8 1 2 (by omega) (by omega) (by omega)).trans f7_5)
    have g8 : f9 8 = f7 8 := (o9 2 2 (by omega) (by omega) (by omega)).trans f8_8
    have t0 : 0 < (f9 0).toInt := by
      rw [g0]
      have e1 : 0 ≤ (f3 0).toInt := p3
      have e2 := d5.1
      rw [f5_0] at e2 ⊢
      omega
    have t4 : 0 < (f9 4).toInt := by rw [g4]; exact p5'
    have t8 : 0 < (f9 8).toInt := by rw [g8]; exact p7'
    have s3 : (f9 3).toInt = (f5 3).toInt % (f9 4).toInt := by rw [g3, g4]; exact m6
    have s6 : (f9 6).toInt = (f7 6).toInt % (f9 8).toInt := by rw [g6, g8]; exact m8
    have s7 : (f9 7).toInt = (f8 7).toInt % (f9 8).toInt := by rw [g8, ← f8_8]; exact m9
    have s3a := Int.emod_nonneg (f5 3).toInt (b := (f9 4).toInt) (by omega)
    have s3b := Int.emod_lt_of_pos (f5 3).toInt t4
    have s6a := Int.emod_nonneg (f7 6).toInt (b := (f9 8).toInt) (by omega)
    have s6b := Int.emod_lt_of_pos (f7 6).toInt t8
    have s7a := Int.emod_nonneg (f8 7).toInt (b := (f9 8).toInt) (by omega)
    have s7b := Int.emod_lt_of_pos (f8 7).toInt t8
    refine ⟨(f9 0).toInt.toNat, (f9 4).toInt.toNat, (f9 8).toInt.toNat, (f9 3).toInt.toNat, (f9 6).toInt.toNat, (f9 7).toInt.toNat, ⟨z_nat (by omega), by rw [g1]; exact f5_1, g2, z_nat (by omega), z_nat (by omega), g5, z_nat (by omega), z_nat (by omega), z_nat (by omega)⟩, ?_, by omega, by omega, by omega, k9.2⟩
    have e := k9.1
    have g1' : f9 1 = 0 := g1.trans f5_1
    simp only [dtF, zi, g1', g2, g5, Int32.toInt_zero, Int.zero_mul, Int.sub_zero, Int.add_zero] at e
    rw [← e, Int.natAbs_mul, Int.natAbs_mul, ← Nat.mul_assoc]
    have w0 : (f9 0).toInt.natAbs = (f9 0).toInt.toNat := by omega
    have w4 : (f9 4).toInt.natAbs = (f9 4).toInt.toNat := by omega
    have w8 : (f9 8).toInt.natAbs = (f9 8).toInt.toNat := by omega
    rw [w0, w4, w8]
