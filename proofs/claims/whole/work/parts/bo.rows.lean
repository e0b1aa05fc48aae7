/-! rows of numbers that the acts leave -/
theorem ck_ext {r r' : Nat → Int32} {k : Nat} (h : ∀ j, 3 ≤ j → j < 15 → r j = r' j) (h2 : ∀ j, 39 + 50 * k ≤ j → j < 39 + 50 * k + 50 → r j = r' j) (hg : glN r < 24) (hc : ckOK r k) : ckOK r' k := by
  have ev : ∀ e, e < 24 → vlN r k e = vlN r' k e := fun e he => by rw [vlN, vlN, h2 _ (by omega) (by omega)]
  have ew : wdN r k = wdN r' k := by rw [wdN, wdN, h2 _ (by omega) (by omega)]
  have ei : niN r k = niN r' k := by rw [niN, niN, h2 _ (by omega) (by omega)]
  obtain ⟨-, -, e3⟩ := gp_ext h
  obtain ⟨c1, c2, c3, c4, c5⟩ := hc
  refine ⟨fun e he => ?_, ?_, ?_, fun j hj => ?_, ?_⟩
  · rw [← h2 _ (by omega) (by omega), ← ev e he]; exact c1 e he
  · rw [← h2 _ (by omega) (by omega), ← ew]; exact c2
  · rw [← h2 _ (by omega) (by omega), ← ei]; exact c3
  · rw [← ei] at hj
    have := c3.2
    rw [← h2 _ (by omega) (by omega)]; exact c4 j hj
  · rw [← e3]
    rw [← ev _ hg]; exact c5
theorem RW_ext {r r' : Nat → Int32} {m nc nk : Nat} (h : ∀ k, k < 439 → r k = r' k) (hr : RW r m nc nk) : RW r' m nc nk := by
  obtain ⟨⟨b1, b2, b3, b4, b5⟩, ⟨m1, m2, m3⟩, ⟨k1, k2⟩, ⟨o1, o2, o3⟩, c1, s1, q1⟩ := hr
  have e1 := (gp_ext (r := r) (r' := r') (fun j _ _ => h j (by omega))).1
  have ec : ∀ c, c < nc → ctN r c = ctN r' c := fun c hc => by rw [ctN, ctN, h _ (by omega)]
  refine ⟨⟨fun k hk => by rw [← h _ (by omega)]; exact b1 k hk, fun i hi => by rw [← h _ (by omega)]; exact b2 i hi, by rw [← h _ (by omega)]; exact b3, b4, fun c i hc hi => by rw [← h _ (by omega)]; exact b5 c i hc hi⟩, ⟨by rw [← h _ (by omega)]; exact m1, m2, m3⟩, ⟨by rw [← h _ (by omega)]; exact k1, k2⟩, ⟨fun i j hi hj z => by rw [← h _ (by omega)]; exact o1 i j hi hj z, fun i hi z => by rw [← h _ (by omega)]; exact o2 i hi z, fun c i hc hi z => by rw [← h _ (by omega)]; exact o3 c i hc hi z⟩, fun c hc => by rw [← h _ (by omega), ← ec c hc]; exact c1 c hc, fun z => by rw [← e1]; exact s1 z, fun k hk => ck_ext (fun j _ _ => h j (by omega)) (fun j _ _ => h j (by omega)) (by have := gl_lt b1 (s1 (by omega)); have := szN_le r; omega) (q1 k hk)⟩
theorem zi_1 : (nI 1).toInt.natAbs = 1 := by decide
theorem zi_0 : (nI 0).toInt.natAbs = 0 := by decide
theorem RW_begin {r : Nat → Int32} {m : Nat} (h1 : 1 ≤ m) (h3 : m ≤ 3) (h : ∀ k, k < 439 → r k = begR (nI m) k) : RW r m 0 0 := by
  refine ⟨⟨fun k hk => ?_, fun i hi => ?_, ?_, by omega, fun c i hc => absurd hc (by omega)⟩, ⟨?_, h1, h3⟩, ⟨?_, by omega⟩, ⟨fun i j hi hj _ => ?_, fun i hi _ => ?_, fun c i hc => absurd hc (by omega)⟩, fun c hc => absurd hc (by omega), fun z => absurd z (by omega), fun k hk => absurd hk (by omega)⟩
  · rw [h _ (by omega), begR, if_neg (by omega)]; split
    · rw [zi_1]; omega
    · rw [zi_0]; omega
  · rw [h _ (by omega), begR, if_neg (by omega), if_neg (by omega), zi_0]; omega
  · rw [h _ (by omega), begR, if_neg (by omega), if_neg (by omega)]
  · rw [h _ (by omega), begR, if_pos rfl]
  · rw [h _ (by omega), begR, if_neg (by omega), if_neg (by omega)]
  · rw [h _ (by omega), begR, if_neg (by omega)]
    by_cases e : i = j
    · rw [if_pos e, if_pos (by omega)]
    · rw [if_neg e, if_neg (by omega)]
  · rw [h _ (by omega), begR, if_neg (by omega), if_neg (by omega)]
/-- a number of the basis or the right side becomes another one -/
theorem RW_upd {r : Nat → Int32} {m nc nk a : Nat} {v : Int32} (hr : RW r m nc nk) (ha : (∃ i j, i < m ∧ j < m ∧ a = 3 + 3 * i + j ∧ v.toInt.natAbs ≤ 9) ∨ (∃ i, i < m ∧ a = 12 + i ∧ v.toInt.natAbs ≤ 99)) : RW (xupd (xupd r a v) 2 (nI 0)) m nc 0 := by
  obtain ⟨⟨b1, b2, b3, b4, b5⟩, ⟨m1, m2, m3⟩, ⟨k1, k2⟩, ⟨o1, o2, o3⟩, c1, s1, q1⟩ := hr
  have g : ∀ k, k ≠ 2 → k ≠ a → xupd (xupd r a v) 2 (nI 0) k = r k := fun k h1 h2 => by rw [xupd_ne h1, xupd_ne h2]
  have ga : a ≠ 2 → xupd (xupd r a v) 2 (nI 0) a = v := fun h1 => by rw [xupd_ne h1, xupd_eq]
  have ha15 : 3 ≤ a ∧ a < 15 := by
    rcases ha with ⟨i, j, hi, hj, e, -⟩ | ⟨i, hi, e, -⟩ <;> omega
  have ec : ∀ c, c < nc → ctN (xupd (xupd r a v) 2 (nI 0)) c = ctN r c := fun c hc => by rw [ctN, ctN, g _ (by omega) (by omega)]
  refine ⟨⟨fun k hk => ?_, fun i hi => ?_, ?_, b4, fun c i hc hi => ?_⟩, ⟨?_, m2, m3⟩, ⟨?_, by omega⟩, ⟨fun i j hi hj z => ?_, fun i hi z => ?_, fun c i hc hi z => ?_⟩, fun c hc => ?_, fun z => absurd z (by omega), fun k hk => absurd hk (by omega)⟩
  · by_cases e : 3 + k = a
    · rw [e, ga (by omega)]
      rcases ha with ⟨i, j, hi, hj, e', h9⟩ | ⟨i, hi, e', -⟩
      · exact h9
      · omega
    · rw [g _ (by omega) e]; exact b1 k hk
  · by_cases e : 12 + i = a
    · rw [e, ga (by omega)]
      rcases ha with ⟨i', j, hi', hj, e', h9⟩ | ⟨i', hi', e', h9⟩
      · omega
      · exact h9
    · rw [g _ (by omega) e]; exact b2 i hi
  · rw [g _ (by omega) (by omega)]; exact b3
  · rw [g _ (by omega) (by omega)]; exact b5 c i hc hi
  · rw [g _ (by omega) (by omega)]; exact m1
  · rw [xupd_eq]
  · rw [g _ (by omega) (by rcases ha with ⟨i', j', hi', hj', e', h9⟩ | ⟨i', hi', e', h9⟩ <;> omega)]; exact o1 i j hi hj z
  · rw [g _ (by omega) (by rcases ha with ⟨i', j', hi', hj', e', h9⟩ | ⟨i', hi', e', h9⟩ <;> omega)]; exact o2 i hi z
  · rw [g _ (by omega) (by omega)]; exact o3 c i hc hi z
  · rw [g _ (by omega) (by omega), ec c hc]; exact c1 c hc
/-- rows that have the same basis, right side and cuts, and columns as they can stand -/
theorem RW_cols {r r' : Nat → Int32} {m nc nk nc' nk' : Nat} (hr : RW r m nc nk) (h0 : r' 0 = r 0) (h1 : r' 1 = nI nc') (h2 : r' 2 = nI nk') (hk : nk' ≤ nk) (h3 : ∀ j, 3 ≤ j → j < 15 → r j = r' j) (hq : ∀ j, 39 ≤ j → r j = r' j) (h6 : nc' ≤ 6)
    (hc : ∀ c, c < nc' → (∀ i, i < 3 → (r' (15 + 4 * c + i)).toInt.natAbs ≤ 99 ∧ (m ≤ i → r' (15 + 4 * c + i) = nI 0)) ∧ r' (15 + 4 * c + 3) = nI (ctN r' c) ∧ ctN r' c ≤ 99) : RW r' m nc' nk' := by
  obtain ⟨⟨b1, b2, b3, b4, b5⟩, ⟨m1, m2, m3⟩, ⟨k1, k2⟩, ⟨o1, o2, o3⟩, c1, s1, q1⟩ := hr
  have e1 := (gp_ext h3).1
  exact ⟨⟨fun k hk => by rw [← h3 _ (by omega) (by omega)]; exact b1 k hk, fun i hi => by rw [← h3 _ (by omega) (by omega)]; exact b2 i hi, h1, h6, fun c i hc' hi => ((hc c hc').1 i hi).1⟩, ⟨h0.trans m1, m2, m3⟩, ⟨h2, by omega⟩, ⟨fun i j hi hj z => by rw [← h3 _ (by omega) (by omega)]; exact o1 i j hi hj z, fun i hi z => by rw [← h3 _ (by omega) (by omega)]; exact o2 i hi z, fun c i hc' hi z => ((hc c hc').1 i hi).2 z⟩, fun c hc' => (hc c hc').2, fun z => by rw [← e1]; exact s1 (by omega), fun k hk' => ck_ext h3 (fun j _ _ => hq j (by omega)) (by have := gl_lt b1 (s1 (by omega)); have := szN_le r; omega) (q1 k (by omega))⟩
theorem col_of {r : Nat → Int32} {m nc nk c : Nat} (hr : RW r m nc nk) (hc : c < nc) : (∀ i, i < 3 → (r (15 + 4 * c + i)).toInt.natAbs ≤ 99 ∧ (m ≤ i → r (15 + 4 * c + i) = nI 0)) ∧ r (15 + 4 * c + 3) = nI (ctN r c) ∧ ctN r c ≤ 99 :=
  ⟨fun i hi => ⟨hr.1.2.2.2.2 c i hc hi, fun z => hr.2.2.2.1.2.2 c i hc hi z⟩, hr.2.2.2.2.1 c hc⟩
theorem RW_uncut {r : Nat → Int32} {m nc nk : Nat} (hr : RW r m nc nk) : RW (xupd r 2 (nI (nk - 1))) m nc (nk - 1) := by
  have g : ∀ k, k ≠ 2 → xupd r 2 (nI (nk - 1)) k = r k := fun k h1 => by rw [xupd_ne h1]
  have e : ∀ c, ctN (xupd r 2 (nI (nk - 1))) c = ctN r c := fun c => by rw [ctN, ctN, g _ (by omega)]
  refine RW_cols hr (g 0 (by omega)) ((g 1 (by omega)).trans hr.1.2.2.1) xupd_eq (by omega) (fun j h1 h2 => (g j (by omega)).symm) (fun j h1 => (g j (by omega)).symm) hr.1.2.2.2.1 (fun c hc => ?_)
  have := col_of hr hc
  refine ⟨fun i hi => ?_, ?_⟩
  · rw [g _ (by omega)]; exact this.1 i hi
  · rw [g _ (by omega), e]; exact this.2
theorem RW_cost {r : Nat → Int32} {m nc nk k v : Nat} (hr : RW r m nc nk) (hk : k < nc) (hv : v ≤ 99) : RW (xupd r (15 + 4 * k + 3) (nI v)) m nc nk := by
  have h6 := hr.1.2.2.2.1
  have g : ∀ j, j ≠ 15 + 4 * k + 3 → xupd r (15 + 4 * k + 3) (nI v) j = r j := fun j h1 => by rw [xupd_ne h1]
  refine RW_cols hr (g 0 (by omega)) ((g 1 (by omega)).trans hr.1.2.2.1) ((g 2 (by omega)).trans hr.2.2.1.1) (by omega) (fun j h1 h2 => (g j (by omega)).symm) (fun j h1 => (g j (by omega)).symm) hr.1.2.2.2.1 (fun c hc => ?_)
  have := col_of hr hc
  refine ⟨fun i hi => ?_, ?_⟩
  · rw [g _ (by omega)]; exact this.1 i hi
  · by_cases e : c = k
    · subst e
      rw [ctN, xupd_eq, nI_toInt (by omega), Int.toNat_natCast]; exact ⟨rfl, hv⟩
    · have e2 : ctN (xupd r (15 + 4 * k + 3) (nI v)) c = ctN r c := by rw [ctN, ctN, g _ (by omega)]
      rw [g _ (by omega), e2]; exact this.2
theorem RW_column {r : Nat → Int32} {m nc nk v : Nat} {x y z : Int32} (hr : RW r m nc nk) (h6 : nc < 6) (hx : x.toInt.natAbs ≤ 99) (hy : (orN m 1 y).toInt.natAbs ≤ 99) (hz : (orN m 2 z).toInt.natAbs ≤ 99) (hv : v ≤ 99) : RW (xupd (xupd (xupd (xupd (xupd r (15 + 4 * nc) x) (15 + 4 * nc + 1) (orN m 1 y)) (15 + 4 * nc + 2) (orN m 2 z)) (15 + 4 * nc + 3) (nI v)) 1 (nI (nc + 1))) m (nc + 1) nk := by
  have m1 := hr.2.1.2.1
  generalize hf : xupd (xupd (xupd (xupd (xupd r (15 + 4 * nc) x) (15 + 4 * nc + 1) (orN m 1 y)) (15 + 4 * nc + 2) (orN m 2 z)) (15 + 4 * nc + 3) (nI v)) 1 (nI (nc + 1)) = r'
  have g : ∀ j, j ≠ 1 → (j < 15 + 4 * nc ∨ 15 + 4 * nc + 4 ≤ j) → r' j = r j := fun j h1 h2 => by
    rw [← hf]; simp (disch := omega) only [xupd_ne]
  have g0 : r' (15 + 4 * nc + 0) = x := by rw [← hf]; simp (disch := omega) only [xupd_ne, Nat.add_zero, xupd_eq]
  have g1 : r' (15 + 4 * nc + 1) = orN m 1 y := by rw [← hf]; simp (disch := omega) only [xupd_ne, xupd_eq]
  have g2 : r' (15 + 4 * nc + 2) = orN m 2 z := by rw [← hf]; simp (disch := omega) only [xupd_ne, xupd_eq]
  have g3 : r' (15 + 4 * nc + 3) = nI v := by rw [← hf]; simp (disch := omega) only [xupd_ne, xupd_eq]
  refine RW_cols hr (g 0 (by omega) (by omega)) (by rw [← hf, xupd_eq]) ((g 2 (by omega) (by omega)).trans hr.2.2.1.1) (by omega) (fun j h1 h2 => (g j (by omega) (by omega)).symm) (fun j h1 => (g j (by omega) (by omega)).symm) (by omega) (fun c hc => ?_)
  by_cases e : c = nc
  · subst e
    refine ⟨fun i hi => ?_, ?_⟩
    · have hic : i = 0 ∨ i = 1 ∨ i = 2 := by omega
      rcases hic with rfl | rfl | rfl
      · rw [g0]; exact ⟨hx, fun z => absurd z (by omega)⟩
      · rw [g1]; exact ⟨hy, fun z => by rw [orN, if_neg (by omega)]⟩
      · rw [g2]; exact ⟨hz, fun z => by rw [orN, if_neg (by omega)]⟩
    · rw [ctN, g3, nI_toInt (by omega), Int.toNat_natCast]; exact ⟨rfl, hv⟩
  · have := col_of hr (show c < nc by omega)
    refine ⟨fun i hi => ?_, ?_⟩
    · rw [g _ (by omega) (by omega)]; exact this.1 i hi
    · have e2 : ctN r' c = ctN r c := by rw [ctN, ctN, g _ (by omega) (by omega)]
      rw [g _ (by omega) (by omega), e2]; exact this.2
theorem RW_drop {r : Nat → Int32} {m nc nk k : Nat} (hr : RW r m nc nk) (hk : k < nc) : RW (shd (xupd r 1 (nI (nc - 1))) (15 + 4 * k) (15 + 4 * (nc - 1))) m (nc - 1) nk := by
  have h6 := hr.1.2.2.2.1
  have g : ∀ j, j ≠ 1 → (j < 15 + 4 * k ∨ 15 + 4 * (nc - 1) ≤ j) → shd (xupd r 1 (nI (nc - 1))) (15 + 4 * k) (15 + 4 * (nc - 1)) j = r j := fun j h1 h2 => by
    rw [shd, if_neg (by omega), xupd_ne h1]
  have g' : ∀ j, 15 + 4 * k ≤ j → j < 15 + 4 * (nc - 1) → shd (xupd r 1 (nI (nc - 1))) (15 + 4 * k) (15 + 4 * (nc - 1)) j = r (j + 4) := fun j h1 h2 => by
    rw [shd, if_pos ⟨h1, h2⟩, xupd_ne (by omega)]
  refine RW_cols hr (g 0 (by omega) (by omega)) (by rw [shd, if_neg (by omega), xupd_eq]) ((g 2 (by omega) (by omega)).trans hr.2.2.1.1) (by omega) (fun j h1 h2 => (g j (by omega) (by omega)).symm) (fun j h1 => (g j (by omega) (by omega)).symm) (by omega) (fun c hc => ?_)
  by_cases e : c < k
  · have := col_of hr (show c < nc by omega)
    refine ⟨fun i hi => ?_, ?_⟩
    · rw [g _ (by omega) (by omega)]; exact this.1 i hi
    · rw [ctN, g _ (by omega) (by omega)]; exact this.2
  · have := col_of hr (show c + 1 < nc by omega)
    refine ⟨fun i hi => ?_, ?_⟩
    · rw [g' _ (by omega) (by omega), show 15 + 4 * c + i + 4 = 15 + 4 * (c + 1) + i by omega]; exact this.1 i hi
    · rw [ctN, g' _ (by omega) (by omega), show 15 + 4 * c + 3 + 4 = 15 + 4 * (c + 1) + 3 by omega]; exact this.2
