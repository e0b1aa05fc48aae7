/-! a row with one more cut is as it can stand -/
theorem vs_999 {m nk D kd : Nat} {vs : List Int} (hk : kd < 6) (hn : nk ≤ 8) (hv : vsOK m nk D kd vs) {i : Nat} (hi : i < vs.length) : (vs.getD i 0).natAbs ≤ 999 ∧ -9 ≤ vs.getD i 0 := by
  obtain ⟨h1, h2⟩ := hv
  have b := h2 i hi
  rw [kdL_at hk hn (by omega)] at b
  have tk : (nI nk - nI 1 : Int32).toInt = (nk : Int) - 1 := tI_m1 (by omega)
  have l9 : -9 ≤ (lwI kd i).toInt := by
    rw [lwI]; split
    · decide
    · split <;> decide
  have g9 : (grI nk kd i).toInt ≤ 999 := by
    rw [grI]; split
    · decide
    · split
      · rw [tk]; omega
      · split <;> decide
  dsimp only at b
  omega
theorem RW_cut {r : Nat → Int32} {m nc nk kd : Nat} {vs : List Int} (hr : RW r m nc nk) (h0 : 0 < szN r) (hk : nk < 8) (hkd : kd < 6) (hv : vsOK m nk (szN r) kd vs) (hz : cvF r m kd vs (glN r) ≠ 0) : RW (cutR r nk (szN r) (cvF r m kd vs) kd vs) m nc (nk + 1) := by
  have hD := szN_le r
  have hgl := gl_lt hr.1.1 h0
  have lo : ∀ j, j < 39 + 50 * nk → j ≠ 2 → cutR r nk (szN r) (cvF r m kd vs) kd vs j = r j := fun j h1 h2 => by
    rw [cutR, if_neg h2, if_neg (by omega), if_neg (by omega), if_neg (by omega), if_neg (by omega)]
  have vb := fun e (he : e < szN r) => cv_b hr h0 hkd hv he
  have vl := vs_len hr.2.1.2.2 hD hkd hv
  have ni := fun i hi => vs_999 (i := i) hkd (show nk ≤ 8 by omega) hv hi
  have p7 : 2 ^ nk ≤ 2 ^ 7 := Nat.pow_le_pow_right (by omega) (by omega)
  generalize hV : cvF r m kd vs = V at *
  have e2 : cutR r nk (szN r) V kd vs 2 = nI (nk + 1) := by rw [cutR, if_pos rfl]
  have ev : ∀ e, e < 24 → cutR r nk (szN r) V kd vs (39 + 50 * nk + e) = nI (if e < szN r then V e else 0) := fun e he => by
    rw [cutR, if_neg (by omega), if_pos (by omega), Nat.add_sub_cancel_left]
    by_cases c : e < szN r
    · rw [if_pos c, if_pos c]
    · rw [if_neg c, if_neg c]
  have ek : cutR r nk (szN r) V kd vs (39 + 50 * nk + 24) = nI kd := by rw [cutR, if_neg (by omega), if_neg (by omega), if_pos rfl]
  have en : cutR r nk (szN r) V kd vs (39 + 50 * nk + 25) = nI vs.length := by rw [cutR, if_neg (by omega), if_neg (by omega), if_neg (by omega), if_pos rfl]
  have ei : ∀ j, j < vs.length → cutR r nk (szN r) V kd vs (39 + 50 * nk + 26 + j) = Int32.ofInt (vs.getD j 0) := fun j hj => by
    rw [cutR, if_neg (by omega), if_neg (by omega), if_neg (by omega), if_neg (by omega), if_pos (by omega), Nat.add_sub_cancel_left, if_pos hj]
  generalize cutR r nk (szN r) V kd vs = r' at *
  obtain ⟨⟨b1, b2, b3, b4, b5⟩, ⟨m1, m2, m3⟩, ⟨k1, k2⟩, ⟨o1, o2, o3⟩, c1, s1, q1⟩ := hr
  have g3 : ∀ j, 3 ≤ j → j < 15 → r j = r' j := fun j j1 j2 => (lo j (by omega) (by omega)).symm
  obtain ⟨e1, -, e3⟩ := gp_ext g3
  have ec : ∀ c, c < nc → ctN r' c = ctN r c := fun c hc => by rw [ctN, ctN, lo _ (by omega) (by omega)]
  refine ⟨⟨fun k hk => by rw [lo _ (by omega) (by omega)]; exact b1 k hk, fun i hi => by rw [lo _ (by omega) (by omega)]; exact b2 i hi, by rw [lo _ (by omega) (by omega)]; exact b3, b4, fun c i hc hi => by rw [lo _ (by omega) (by omega)]; exact b5 c i hc hi⟩, ⟨by rw [lo _ (by omega) (by omega)]; exact m1, m2, m3⟩, ⟨e2, by omega⟩, ⟨fun i j hi hj z => by rw [lo _ (by omega) (by omega)]; exact o1 i j hi hj z, fun i hi z => by rw [lo _ (by omega) (by omega)]; exact o2 i hi z, fun c i hc hi z => by rw [lo _ (by omega) (by omega)]; exact o3 c i hc hi z⟩, fun c hc => by rw [lo _ (by omega) (by omega), ec c hc]; exact c1 c hc, fun _ => by rw [← e1]; exact h0, fun k hk' => ?_⟩
  by_cases e : k = nk
  · subst e
    have vv : ∀ e, e < 24 → vlN r' k e = if e < szN r then V e else 0 := fun e he => by
      have le : (if e < szN r then V e else 0) ≤ 127872 := by
        by_cases c : e < szN r
        · rw [if_pos c]; have := vb e c; omega
        · rw [if_neg c]; omega
      rw [vlN, ev e he, nI_toInt (by omega), Int.toNat_natCast]
    refine ⟨fun e he => ⟨?_, ?_⟩, ⟨?_, ?_⟩, ⟨?_, ?_⟩, fun j hj => ?_, ?_⟩
    · rw [ev e he, vv e he]
    · rw [vv e he]
      by_cases c : e < szN r
      · rw [if_pos c]; exact vb e c
      · rw [if_neg c]; omega
    · rw [wdN, ek, nI_toInt (by omega), Int.toNat_natCast]
    · rw [wdN, ek, nI_toInt (by omega), Int.toNat_natCast]; exact hkd
    · rw [niN, en, nI_toInt (by omega), Int.toNat_natCast]
    · rw [niN, en, nI_toInt (by omega), Int.toNat_natCast]; exact vl
    · rw [niN, en, nI_toInt (by omega), Int.toNat_natCast] at hj
      have := ni j hj
      have sz : (Int32.size : Int) = 4294967296 := rfl
      rw [ei j hj, Int32.toInt_ofInt, Int.bmod_eq_of_le (by omega) (by omega)]
      exact this.1
    · rw [← e3, vv _ (by omega), if_pos hgl]; exact hz
  · exact ck_ext g3 (fun j j1 j2 => (lo j (by omega) (by omega)).symm) (by omega) (q1 k (by omega))
