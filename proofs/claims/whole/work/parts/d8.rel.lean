/-! they stand alike when they are made -/
theorem mdf_v (n : Nat) : ∀ i j, j < i → mdf n i j = some (n + 6 * j) := fun i => by
  induction i with
  | zero => intro j h; omega
  | succ i ih =>
    intro j h
    rw [← mdf_s]
    by_cases e : j = i
    · subst e; rw [xupd_eq]
    · rw [xupd_ne e]; exact ih j (by omega)
theorem vlf_v (n : Nat) : ∀ i j, j < i → vlf n i j = some (n + 2 * j) := fun i => by
  induction i with
  | zero => intro j h; omega
  | succ i ih =>
    intro j h
    show xupd (vlf n i) i (some (n + 2 * i)) j = _
    by_cases e : j = i
    · subst e; rw [xupd_eq]
    · rw [xupd_ne e]; exact ih j (by omega)
theorem row1 : σ1.2.2.1 164 = begR (nI 2) := by
  funext k
  show xupd σ0.2.2.1 164 (fun k => if k < 439 then begR (nI 2) k else σ0.2.2.1 164 k) 164 k = _
  rw [xupd_eq]
  by_cases e : k < 439
  · rw [if_pos e]
  · rw [if_neg e, begR, if_neg (by omega), if_neg (by omega)]; rfl
theorem isQ_0 {q : Nat} (h : isQ 0 q = true) : False := by
  simp only [isQ, Bool.and_eq_true, Nat.ble_eq, Nat.blt_eq, Nat.beq_eq] at h
  omega
theorem Rl_0 (n0 : Nat) (G : Nat → Nat → Int32) : Rl n0 G c0 τ0 σ1 := by
  refine ⟨⟨2, 0, 0, ?_⟩, ⟨0, 0, ?_⟩, ?_, ?_, ⟨fun _ => 0, 0, ?_⟩, ?_⟩
  · rw [row1]
    refine ⟨RW_begin (m := 2) (by omega) (by omega) (fun _ _ => rfl), ?_, fun q hq => (isQ_0 hq).elim, ?_, Or.inl rfl, Or.inl rfl, Or.inl rfl⟩
    · refine ⟨⟨rfl, rfl, rfl⟩, fun k hk => ?_, fun k hk => ?_, fun k i h => by omega, fun k h => by omega, fun k h => by omega⟩
      · exact dgF_b (f := fil (fun _ => nI 0) (nI 0) 9) (fun k hk => by rw [fil, if_pos hk]) k hk
      · show fil (fun _ => nI 0) (nI 0) 3 k = _
        rw [fil, if_pos hk, begR, if_neg (by omega), if_neg (by omega)]
    · refine ⟨fun j hj => ⟨97 + 2 * j, vlf_v 97 25 j hj, by omega, by omega, by omega⟩, fun i j hi hj hn => ?_⟩
      show vlf 97 25 i ≠ vlf 97 25 j
      rw [vlf_v 97 25 i hi, vlf_v 97 25 j hj]
      intro z
      have := Option.some.inj z
      omega
  · exact ⟨⟨rfl, rfl, by omega, rfl, by omega⟩, fun i h => by omega⟩
  · intro k hk
    refine Or.inl ⟨rfl, ?_⟩
    rcases (by omega : k = 0 ∨ k = 1) with e | e
    · subst e; rfl
    · subst e; rfl
  · refine ⟨fun j hj => mdf_v 11 10 j hj, fun k hk => mdf_v 150 2 k hk, fun a i q ha hi z => ?_⟩
    exfalso
    have hz : τ0.2.2 (a + 5) i = none := by
      by_cases e : a = 1
      · subst e
        show fil (fun _ => none) none 8 i = none
        rw [fil, if_pos hi]
      · have ha' : a = 1 ∨ (∃ j, j < 10 ∧ a = 11 + 6 * j) ∨ a = 150 ∨ a = 156 := by
          simp only [isM, Bool.or_eq_true, Bool.and_eq_true, Nat.blt_eq, Nat.ble_eq, Nat.beq_eq] at ha
          rcases ha with ((h | h) | h) | h
          · exact Or.inl h
          · exact Or.inr (Or.inl ⟨(a - 11) / 6, by omega, by omega⟩)
          · exact Or.inr (Or.inr (Or.inl h))
          · exact Or.inr (Or.inr (Or.inr h))
        show (if a + 5 = 6 then fil (fun _ => none) none 8 else if a + 5 = 7 then mdf 150 2 else if a + 5 = 9 then mdf 11 10 else if a + 5 = 95 then vlf 97 25 else fun _ => none) i = none
        have e1 : ¬ a + 5 = 6 := by omega
        have e2 : ¬ a + 5 = 7 := by rcases ha' with h | ⟨j, h1, h2⟩ | h | h <;> omega
        have e3 : ¬ a + 5 = 9 := by rcases ha' with h | ⟨j, h1, h2⟩ | h | h <;> omega
        have e4 : ¬ a + 5 = 95 := by rcases ha' with h | ⟨j, h1, h2⟩ | h | h <;> omega
        rw [if_neg e1, if_neg e2, if_neg e3, if_neg e4]
    rw [hz] at z
    cases z
  · exact ⟨⟨rfl, by omega, fun i h => by omega⟩, rfl, fun i h => by omega⟩
  · refine ⟨fun i hi => rfl, rfl, rfl, fun i hi => ?_⟩
    rcases (by omega : i = 0 ∨ i = 1 ∨ i = 2 ∨ i = 3 ∨ i = 4 ∨ i = 5) with e | e | e | e | e | e <;> subst e <;> rfl
