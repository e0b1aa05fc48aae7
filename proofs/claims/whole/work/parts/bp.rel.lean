/-! class and reference stand alike -/
def rwA (f : Nat → Int32) (a : Nat) : Nat → Int32 := fun k => f (a + k)
def MR (G : Nat → Nat → Int32) (c : XC) (τ : XS) (a : Nat) (r : Nat → Int32) : Prop := ∃ m nc nk, RW r m nc nk ∧ MdR G c τ a r m nc nk
/-- where the i-th act lies in the ring -/
def hxI (x n i : Nat) : Nat := (x + 10 - n + i) % 10
def HiR (G : Nat → Nat → Int32) (c : XC) (τ : XS) (σ : MS) (n x : Nat) : Prop := (σ.1 6 = nI n ∧ τ.1 8 3 = nI n ∧ n ≤ 10 ∧ τ.1 8 2 = nI x ∧ x < 10) ∧ ∀ i, i < n → MR G c τ (11 + 6 * hxI x n i) (rwA (σ.2.2.1 165) (439 * i)) ∧ τ.1 10 (hxI x n i) = σ.2.2.1 166 i
def ImR (G : Nat → Nat → Int32) (c : XC) (τ : XS) (σ : MS) : Prop := ∀ k, k < 2 → (σ.2.2.1 168 k = 0 ∧ τ.1 (150 + 6 * k) 0 = nI 0) ∨ (¬ σ.2.2.1 168 k = 0 ∧ MR G c τ (150 + 6 * k) (rwA (σ.2.2.1 167) (439 * k)))
def PtR (c : XC) (τ : XS) : Prop := (∀ j, j < 10 → τ.2.2 9 j = some (11 + 6 * j)) ∧ (∀ k, k < 2 → τ.2.2 7 k = some (150 + 6 * k)) ∧ ∀ a i q, isM a = true → i < 8 → τ.2.2 (a + 5) i = some q → isQ c.1 q = true
def TpR (t : Nat → Nat) (n : Nat) (τ : XS) (σ : MS) : Prop := tpO t n σ ∧ τ.1 71 1 = nI n ∧ ∀ i, i < n → τ.1 72 i = nI (t i)
def OtR (τ : XS) (σ : MS) : Prop := (∀ i, i < 7 → τ.1 149 i = σ.2.2.1 163 i) ∧ τ.1 0 12 = σ.1 1 ∧ τ.1 0 13 = σ.1 28 ∧ wdO σ
def Rl (n0 : Nat) (G : Nat → Nat → Int32) (c : XC) (τ : XS) (σ : MS) : Prop := (∃ m nc nk, CI n0 G c τ (σ.2.2.1 164) m nc nk) ∧ (∃ n x, HiR G c τ σ n x) ∧ ImR G c τ σ ∧ PtR c τ ∧ (∃ t n, TpR t n τ σ) ∧ OtR τ σ
theorem isM_h {j : Nat} (h : j < 10) : isM (11 + 6 * j) = true := by
  simp only [isM, Bool.or_eq_true, Bool.and_eq_true, Nat.blt_eq, Nat.ble_eq, Nat.beq_eq]; omega
theorem isM_i {k : Nat} (h : k < 2) : isM (150 + 6 * k) = true := by
  simp only [isM, Bool.or_eq_true, Bool.and_eq_true, Nat.blt_eq, Nat.ble_eq, Nat.beq_eq]; omega
theorem hxI_lt (x n i : Nat) : hxI x n i < 10 := Nat.mod_lt _ (by omega)
theorem CtR_eq {c : XC} {τ τ' : XS} {q k : Nat} {r : Nat → Int32} (h : ∀ b, 192 ≤ b → τ'.1 b = τ.1 b) (hq : isQ c.1 q = true) (hc : CtR c τ q r k) : CtR c τ' q r k := by
  have z := isQ_or hq
  rw [CtR, h q (by omega), h (q + 3) (by omega), h (q + 1 + 1) (by omega), h (q + 1) (by omega)]
  exact hc
theorem MdR_eq {G : Nat → Nat → Int32} {c : XC} {τ τ' : XS} {a m nc nk : Nat} {r : Nat → Int32} (h : ∀ b, a ≤ b → b < a + 6 → τ'.1 b = τ.1 b ∧ τ'.2.2 b = τ.2.2 b) (h2 : ∀ b, 192 ≤ b → τ'.1 b = τ.1 b) (hm : MdR G c τ a r m nc nk) : MdR G c τ' a r m nc nk := by
  rw [MdR, (h a (by omega) (by omega)).1, (h (a + 1) (by omega) (by omega)).1, (h (a + 2) (by omega) (by omega)).1, (h (a + 3) (by omega) (by omega)).1, (h (a + 4) (by omega) (by omega)).1, (h (a + 5) (by omega) (by omega)).2]
  refine ⟨hm.1, hm.2.1, hm.2.2.1, hm.2.2.2.1, hm.2.2.2.2.1, fun k hk => ?_⟩
  obtain ⟨q, q1, q2, q3, q4⟩ := hm.2.2.2.2.2 k hk
  exact ⟨q, q1, q2, CtR_eq h2 q2 q3, q4⟩
theorem MR_eq {G : Nat → Nat → Int32} {c : XC} {τ τ' : XS} {a : Nat} {r : Nat → Int32} (h : ∀ b, a ≤ b → b < a + 6 → τ'.1 b = τ.1 b ∧ τ'.2.2 b = τ.2.2 b) (h2 : ∀ b, 192 ≤ b → τ'.1 b = τ.1 b) (hm : MR G c τ a r) : MR G c τ' a r := by
  obtain ⟨m, nc, nk, h3, h4⟩ := hm
  exact ⟨m, nc, nk, h3, MdR_eq h h2 h4⟩
theorem MR_qf {G : Nat → Nat → Int32} {c : XC} {τ τ' : XS} {a : Nat} {r : Nat → Int32} (h : qf τ τ') (ha : isM a = true) (hm : MR G c τ a r) : MR G c τ' a r := by
  obtain ⟨m, nc, nk, h3, h4⟩ := hm
  exact ⟨m, nc, nk, h3, MdR_qf h ha h4⟩
/-- a model stands for a row, and for each that has the same numbers -/
theorem CtR_ext {c : XC} {τ : XS} {q k m nc nk : Nat} {r r' : Nat → Int32} (hr : RW r m nc nk) (hk : k < nk) (h : ∀ j, j < 439 → r j = r' j) (hc : CtR c τ q r k) : CtR c τ q r' k := by
  have h8 := hr.2.2.1.2
  have hD := szN_le r
  have hg := gl_lt hr.1.1 (hr.2.2.2.2.2.1 (by omega))
  have hn := (hr.2.2.2.2.2.2 k hk).2.2.1.2
  obtain ⟨e1, -, e3⟩ := gp_ext (r := r) (r' := r') (fun j _ _ => h j (by omega))
  have ei : niN r k = niN r' k := by rw [niN, niN, h _ (by omega)]
  obtain ⟨c1, c2, c3, c4, c5⟩ := hc
  refine ⟨by rw [← h _ (by omega)]; exact c1, by rw [← ei]; exact c2, fun j hj => ?_, fun e he => ?_, ?_⟩
  · rw [← ei] at hj
    rw [← h _ (by omega)]; exact c3 j hj
  · rw [← e1] at he
    rw [← h _ (by omega)]; exact c4 e he
  · rw [← e3, ← h _ (by omega)]; exact c5
theorem MdR_ext {G : Nat → Nat → Int32} {c : XC} {τ : XS} {a m nc nk : Nat} {r r' : Nat → Int32} (hr : RW r m nc nk) (h : ∀ j, j < 439 → r j = r' j) (hm : MdR G c τ a r m nc nk) : MdR G c τ a r' m nc nk := by
  have h6 := hr.1.2.2.2.1
  refine ⟨hm.1, fun k hk => by rw [← h _ (by omega)]; exact hm.2.1 k hk, fun k hk => by rw [← h _ (by omega)]; exact hm.2.2.1 k hk, fun k i hk hi => by rw [← h _ (by omega)]; exact hm.2.2.2.1 k i hk hi, fun k hk => by rw [← h _ (by omega)]; exact hm.2.2.2.2.1 k hk, fun k hk => ?_⟩
  obtain ⟨q, q1, q2, q3, q4⟩ := hm.2.2.2.2.2 k hk
  exact ⟨q, q1, q2, CtR_ext hr hk h q3, fun j h1 h2 => by rw [← h _ (by omega)]; exact q4 j h1 h2⟩
theorem MR_ext {G : Nat → Nat → Int32} {c : XC} {τ : XS} {a : Nat} {r r' : Nat → Int32} (h : ∀ j, j < 439 → r j = r' j) (hm : MR G c τ a r) : MR G c τ a r' := by
  obtain ⟨m, nc, nk, h3, h4⟩ := hm
  exact ⟨m, nc, nk, RW_ext h h3, MdR_ext h3 h h4⟩
/-- questions -/
theorem Rl_q {n0 : Nat} {G : Nat → Nat → Int32} {c : XC} {τ τ' : XS} {σ σ' : MS} {m nc nk : Nat} (hR : Rl n0 G c τ σ) (hC : CI n0 G c τ' (σ.2.2.1 164) m nc nk) (hq : qf τ τ') (hf : fr kZ aZ σ σ') : Rl n0 G c τ' σ' := by
  obtain ⟨-, ⟨n, x, h1, h2⟩, hI, ⟨p1, p2, p3⟩, ⟨t, l, t1, t2, t3⟩, ⟨o1, o2, o3, o4⟩⟩ := hR
  have ka : ∀ a, a ∉ aZ → σ'.2.2.1 a = σ.2.2.1 a := hf.2.1
  have kk : ∀ k, k ∉ kZ → σ'.1 k = σ.1 k := hf.1
  have qn : ∀ a, ¬ qz a → τ'.1 a = τ.1 a ∧ τ'.2.1 a = τ.2.1 a ∧ τ'.2.2 a = τ.2.2 a := hq.1
  refine ⟨⟨m, nc, nk, by rw [ka 164 (by decide)]; exact hC⟩, ⟨n, x, ⟨by rw [kk 6 (by decide)]; exact h1.1, by rw [(qn 8 (by simp only [qz]; omega)).1]; exact h1.2⟩, fun i hi => ⟨by rw [ka 165 (by decide)]; exact MR_qf hq (isM_h (hxI_lt _ _ _)) (h2 i hi).1, by rw [(qn 10 (by simp only [qz]; omega)).1, ka 166 (by decide)]; exact (h2 i hi).2⟩⟩, fun k hk => ?_, ⟨by rw [(qn 9 (by simp only [qz]; omega)).2.2]; exact p1, by rw [(qn 7 (by simp only [qz]; omega)).2.2]; exact p2, fun a i q ha hi e => p3 a i q ha hi (by rw [← (qn (a + 5) (by have := isM_or ha; simp only [qz]; omega)).2.2]; exact e)⟩, ⟨t, l, tpO_fr t1 hf rfl, by rw [(qn 71 (by simp only [qz]; omega)).1]; exact t2, by rw [(qn 72 (by simp only [qz]; omega)).1]; exact t3⟩, ⟨by rw [(qn 149 (by simp only [qz]; omega)).1, ka 163 (by decide)]; exact o1, by rw [hq.2.1, kk 1 (by decide)]; exact o2, by rw [hq.2.2.1, kk 28 (by decide)]; exact o3, fun i hi => by rw [hf.2.2 180 (by decide)]; exact o4 i hi⟩⟩
  rw [ka 168 (by decide), ka 167 (by decide), (qn (150 + 6 * k) (by simp only [qz]; omega)).1]
  rcases hI k hk with z | ⟨z1, z2⟩
  · exact Or.inl z
  · exact Or.inr ⟨z1, MR_qf hq (isM_i hk) z2⟩
/-- what an act leaves of what is reckoned -/
theorem CI_act {n0 : Nat} {G : Nat → Nat → Int32} {c : XC} {τ τ' : XS} {r r' : Nat → Int32} {m nc nk m' nc' nk' : Nat} (hC : CI n0 G c τ r m nc nk) (hr : RW r' m' nc' nk') (hm : MdR G c τ' 1 r' m' nc' nk') (hs : ∀ a, (73 ≤ a ∧ a < 148) ∨ 192 ≤ a → τ'.1 a = τ.1 a ∧ τ'.2.1 a = τ.2.1 a ∧ τ'.2.2 a = τ.2.2 a)
    (f1 : τ'.1 0 14 = bI false ∨ (τ'.1 0 14 = τ.1 0 14 ∧ ∀ j, 3 ≤ j → j < 15 → r j = r' j)) (f2 : τ'.1 0 15 = bI false ∨ (τ'.1 0 15 = τ.1 0 15 ∧ τ'.1 0 14 = τ.1 0 14 ∧ nc' = nc ∧ ∀ j, 3 ≤ j → j < 39 → r j = r' j)) (f3 : τ'.1 0 16 = bI false ∨ (τ'.1 0 16 = τ.1 0 16 ∧ τ'.1 0 14 = τ.1 0 14 ∧ m' = m ∧ ∀ j, 3 ≤ j → j < 15 → r j = r' j)) : CI n0 G c τ' r' m' nc' nk' := by
  obtain ⟨hR, hM, hJ, hP, hG, hW, hT⟩ := hC
  have e : ∀ a, (73 ≤ a ∧ a < 148) ∨ 192 ≤ a → τ'.1 a = τ.1 a := fun a h => (hs a h).1
  refine ⟨hr, hm, JdA_eq (fun a h => e a (by omega)) hJ, PrT_eq (hs 95 (by omega)).2.2 hP, ?_, ?_, ?_⟩
  · rcases f1 with z | ⟨z1, z2⟩
    · exact Or.inl z
    · rcases hG with y | ⟨y1, y2⟩
      · exact Or.inl (z1.trans y)
      · exact Or.inr ⟨z1.trans y1, xGp_eq (fun a h1 h2 => e a (by omega)) (xGp_ext z2 y2)⟩
  · rcases f2 with z | ⟨z1, z2, z3, z4⟩
    · exact Or.inl z
    · rcases hW with y | ⟨y1, y2, y3⟩
      · exact Or.inl (z1.trans y)
      · subst z3
        exact Or.inr ⟨z1.trans y1, z2.trans y2, xWk_eq (fun a h1 h2 => e a (by omega)) (fun a h1 h2 => (hs a (by omega)).2.1) (xWk_ext z4 hr.1.2.2.2.1 y3)⟩
  · rcases f3 with z | ⟨z1, z2, z3, z4⟩
    · exact Or.inl z
    · rcases hT with y | ⟨y1, y2, y3⟩
      · exact Or.inl (z1.trans y)
      · subst z3
        refine Or.inr ⟨z1.trans y1, z2.trans y2, ?_⟩
        have y3 := xTb_ext z4 y3
        refine ⟨fun z => by rw [e 94 (by omega)]; exact y3.1 z, fun z => ⟨by rw [e 94 (by omega)]; exact (y3.2 z).1, fun i hi => ?_⟩⟩
        obtain ⟨v, v1, v2, v3, v4⟩ := (y3.2 z).2 i hi
        obtain ⟨u, u1, u2, u3, u4⟩ := hP.1 i (by have := tbl_len (m := m') hr.1.1 z; omega)
        rw [v1] at u1; cases u1
        exact ⟨v, by rw [(hs 95 (by omega)).2.2]; exact v1, fun e' he => by rw [e (v + 1) (by omega)]; exact v2 e' he, by rw [e v (by omega)]; exact v3, jdO_eq (e v (by omega)) v4⟩
