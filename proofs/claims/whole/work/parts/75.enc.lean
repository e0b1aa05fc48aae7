/-! a walk as one number: cost, steps, times -/
def pwC (c : Nat) : Nat := if c = 0 then 33554432 else if c = 1 then 1048576 else if c = 2 then 32768 else if c = 3 then 1024 else if c = 4 then 32 else 1
def tmE (T : Nat → Nat) : Nat := T 2 * 33554432 + T 3 * 1048576 + T 4 * 32768 + T 5 * 1024 + T 6 * 32 + T 7
def enT (T : Nat → Nat) : Nat := (T 0 * 256 + T 1) * 4294967296 - tmE T
def wzO (x : Nat) : Nat := (x + 4294967295) / 4294967296
def deT (x k : Nat) : Nat := if k = 0 then wzO x / 256 else if k = 1 then wzO x % 256 else (wzO x * 4294967296 - x) / pwC (k - 2) % 32
/-- small numbers: none of the times is great, and without steps there are none -/
def tOK (T : Nat → Nat) : Prop := T 0 ≤ 100000 ∧ T 1 ≤ 200 ∧ (∀ c, c < 6 → T (2 + c) ≤ 31) ∧ (T 1 = 0 → ∀ c, c < 6 → T (2 + c) = 0)
theorem tOK_6 {T : Nat → Nat} (h : tOK T) : T 2 ≤ 31 ∧ T 3 ≤ 31 ∧ T 4 ≤ 31 ∧ T 5 ≤ 31 ∧ T 6 ≤ 31 ∧ T 7 ≤ 31 := ⟨h.2.2.1 0 (by omega), h.2.2.1 1 (by omega), h.2.2.1 2 (by omega), h.2.2.1 3 (by omega), h.2.2.1 4 (by omega), h.2.2.1 5 (by omega)⟩
theorem tmE_le {T : Nat → Nat} (h : tOK T) : tmE T ≤ 1073741823 ∧ tmE T ≤ (T 0 * 256 + T 1) * 4294967296 := by
  obtain ⟨h2, h3, h4, h5, h6, h7⟩ := tOK_6 h
  have e : tmE T ≤ 1073741823 := by rw [tmE]; omega
  refine ⟨e, ?_⟩
  rcases Nat.eq_zero_or_pos (T 1) with z | z
  · have g := h.2.2.2 z
    have g0 : T 2 = 0 := g 0 (by omega)
    have g1 : T 3 = 0 := g 1 (by omega)
    have g2 : T 4 = 0 := g 2 (by omega)
    have g3 : T 5 = 0 := g 3 (by omega)
    have g4 : T 6 = 0 := g 4 (by omega)
    have g5 : T 7 = 0 := g 5 (by omega)
    have : tmE T = 0 := by rw [tmE, g0, g1, g2, g3, g4, g5]
    omega
  · omega
theorem wz_en {T : Nat → Nat} (h : tOK T) : wzO (enT T) = T 0 * 256 + T 1 ∧ wzO (enT T) * 4294967296 - enT T = tmE T := by
  obtain ⟨h1, h2⟩ := tmE_le h
  have e : wzO (enT T) = T 0 * 256 + T 1 := by
    rw [wzO, enT]; omega
  refine ⟨e, ?_⟩
  rw [e, enT]; omega
theorem de_en {T : Nat → Nat} (h : tOK T) {k : Nat} (hk : k < 8) : deT (enT T) k = T k := by
  obtain ⟨e1, e2⟩ := wz_en h
  obtain ⟨h2, h3, h4, h5, h6, h7⟩ := tOK_6 h
  have h1 := h.2.1
  have hc : k = 0 ∨ k = 1 ∨ k = 2 ∨ k = 3 ∨ k = 4 ∨ k = 5 ∨ k = 6 ∨ k = 7 := by omega
  rcases hc with rfl | rfl | rfl | rfl | rfl | rfl | rfl | rfl
  · have e : deT (enT T) 0 = wzO (enT T) / 256 := by simp [deT]
    rw [e, e1]; omega
  · have e : deT (enT T) 1 = wzO (enT T) % 256 := by simp [deT]
    rw [e, e1]; omega
  · have e : deT (enT T) 2 = tmE T / 33554432 % 32 := by simp [deT, pwC, e2]
    rw [e, tmE]; omega
  · have e : deT (enT T) 3 = tmE T / 1048576 % 32 := by simp [deT, pwC, e2]
    rw [e, tmE]; omega
  · have e : deT (enT T) 4 = tmE T / 32768 % 32 := by simp [deT, pwC, e2]
    rw [e, tmE]; omega
  · have e : deT (enT T) 5 = tmE T / 1024 % 32 := by simp [deT, pwC, e2]
    rw [e, tmE]; omega
  · have e : deT (enT T) 6 = tmE T / 32 % 32 := by simp [deT, pwC, e2]
    rw [e, tmE]; omega
  · have e : deT (enT T) 7 = tmE T % 32 := by simp [deT, pwC, e2]
    rw [e, tmE]; omega
/-- which of two is better, as they part and as numbers -/
theorem bet_en {T I : Nat → Nat} (hT : tOK T) (hI : tOK I) : betN T I = decide (enT T < enT I) := by
  obtain ⟨a2, a3, a4, a5, a6, a7⟩ := tOK_6 hT
  obtain ⟨b2, b3, b4, b5, b6, b7⟩ := tOK_6 hI
  have a1 := hT.2.1
  have b1 := hI.2.1
  obtain ⟨m1, m2⟩ := tmE_le hT
  obtain ⟨m3, m4⟩ := tmE_le hI
  have key : ∀ n, n < 8 → (∀ j, j < n → T j = I j) → T n ≠ I n → ptN T I = n := by
    intro n hn hj hne
    have go : ∀ m k, k + m = 8 → k ≤ n → xit (ptS T I) m k = n := by
      intro m
      induction m with
      | zero => intro k h1 h2; omega
      | succ m ih =>
        intro k h1 h2
        by_cases c : k = n
        · subst c
          have : ptS T I k = none := by rw [ptS, if_neg (fun z => hne z.2)]
          simp only [xit, this]
        · have : ptS T I k = some (k + 1) := by rw [ptS, if_pos ⟨by omega, hj k (by omega)⟩]
          simp only [xit, this]
          exact ih (k + 1) (by omega) (by omega)
    exact go 8 0 rfl (by omega)
  have fin : ∀ n, n < 8 → ptN T I = n → betN T I = (if n < 2 then decide (T n < I n) else decide (I n < T n)) := by
    intro n hn e
    rw [betN, e, if_pos hn]
  by_cases d0 : T 0 = I 0
  · by_cases d1 : T 1 = I 1
    · by_cases d2 : T 2 = I 2
      · by_cases d3 : T 3 = I 3
        · by_cases d4 : T 4 = I 4
          · by_cases d5 : T 5 = I 5
            · by_cases d6 : T 6 = I 6
              · by_cases d7 : T 7 = I 7
                · have e : ptN T I = 8 := by
                    have go : ∀ m k, k + m = 8 → xit (ptS T I) m k = 8 := by
                      intro m
                      induction m with
                      | zero => intro k h1; simp only [xit]; omega
                      | succ m ih =>
                        intro k h1
                        have hk : T k = I k := by
                          have hc : k = 0 ∨ k = 1 ∨ k = 2 ∨ k = 3 ∨ k = 4 ∨ k = 5 ∨ k = 6 ∨ k = 7 := by omega
                          rcases hc with rfl | rfl | rfl | rfl | rfl | rfl | rfl | rfl <;> assumption
                        have : ptS T I k = some (k + 1) := by rw [ptS, if_pos ⟨by omega, hk⟩]
                        simp only [xit, this]
                        exact ih (k + 1) (by omega)
                    exact go 8 0 rfl
                  rw [betN, e, if_neg (by omega), enT, enT, tmE, tmE, d0, d1, d2, d3, d4, d5, d6, d7]
                  simp
                · rw [fin 7 (by omega) (key 7 (by omega) (fun j hj => by have hc : j = 0 ∨ j = 1 ∨ j = 2 ∨ j = 3 ∨ j = 4 ∨ j = 5 ∨ j = 6 := (by omega); rcases hc with rfl | rfl | rfl | rfl | rfl | rfl | rfl <;> assumption) d7), if_neg (by omega)]
                  rw [decide_eq_decide, enT, enT]; simp only [tmE] at m1 m2 m3 m4 ⊢; omega
              · rw [fin 6 (by omega) (key 6 (by omega) (fun j hj => by have hc : j = 0 ∨ j = 1 ∨ j = 2 ∨ j = 3 ∨ j = 4 ∨ j = 5 := (by omega); rcases hc with rfl | rfl | rfl | rfl | rfl | rfl <;> assumption) d6), if_neg (by omega)]
                rw [decide_eq_decide, enT, enT]; simp only [tmE] at m1 m2 m3 m4 ⊢; omega
            · rw [fin 5 (by omega) (key 5 (by omega) (fun j hj => by have hc : j = 0 ∨ j = 1 ∨ j = 2 ∨ j = 3 ∨ j = 4 := (by omega); rcases hc with rfl | rfl | rfl | rfl | rfl <;> assumption) d5), if_neg (by omega)]
              rw [decide_eq_decide, enT, enT]; simp only [tmE] at m1 m2 m3 m4 ⊢; omega
          · rw [fin 4 (by omega) (key 4 (by omega) (fun j hj => by have hc : j = 0 ∨ j = 1 ∨ j = 2 ∨ j = 3 := (by omega); rcases hc with rfl | rfl | rfl | rfl <;> assumption) d4), if_neg (by omega)]
            rw [decide_eq_decide, enT, enT]; simp only [tmE] at m1 m2 m3 m4 ⊢; omega
        · rw [fin 3 (by omega) (key 3 (by omega) (fun j hj => by have hc : j = 0 ∨ j = 1 ∨ j = 2 := (by omega); rcases hc with rfl | rfl | rfl <;> assumption) d3), if_neg (by omega)]
          rw [decide_eq_decide, enT, enT]; simp only [tmE] at m1 m2 m3 m4 ⊢; omega
      · rw [fin 2 (by omega) (key 2 (by omega) (fun j hj => by have hc : j = 0 ∨ j = 1 := (by omega); rcases hc with rfl | rfl <;> assumption) d2), if_neg (by omega)]
        rw [decide_eq_decide, enT, enT]; simp only [tmE] at m1 m2 m3 m4 ⊢; omega
    · rw [fin 1 (by omega) (key 1 (by omega) (fun j hj => by have hc : j = 0 := (by omega); subst hc; assumption) d1), if_pos (by omega)]
      rw [decide_eq_decide, enT, enT]; omega
  · rw [fin 0 (by omega) (key 0 (by omega) (fun j hj => by omega) d0), if_pos (by omega)]
    rw [decide_eq_decide, enT, enT]; omega
theorem bet_far {T I : Nat → Nat} (hT : T 0 < 1000000000) (hI : I 0 = 1000000000) : betN T I = true := by
  have : ptN T I = 0 := by
    rw [ptN]
    have : ptS T I 0 = none := by rw [ptS, if_neg (fun z => by omega)]
    simp only [xit, this]
  rw [betN, this, if_pos (by omega), if_pos (by omega), hI]
  exact decide_eq_true hT
