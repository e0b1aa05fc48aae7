/-! the class grows by a cut -/
theorem CI_act2 {n0 : Nat} {G : Nat → Nat → Int32} {c : XC} {τ τ' : XS} {r r' : Nat → Int32} {m nc nk m' nc' nk' : Nat} (hC : CI n0 G c τ r m nc nk) (hr : RW r' m' nc' nk') (hm : MdR G c τ' 1 r' m' nc' nk') (hs : ∀ a, (73 ≤ a ∧ a < 147) ∨ 192 ≤ a → τ'.1 a = τ.1 a ∧ τ'.2.1 a = τ.2.1 a ∧ τ'.2.2 a = τ.2.2 a)
    (f1 : τ'.1 0 14 = bI false ∨ (τ'.1 0 14 = τ.1 0 14 ∧ ∀ j, 3 ≤ j → j < 15 → r j = r' j)) (f2 : τ'.1 0 15 = bI false ∨ (τ'.1 0 15 = τ.1 0 15 ∧ τ'.1 0 14 = τ.1 0 14 ∧ nc' = nc ∧ ∀ j, 3 ≤ j → j < 39 → r j = r' j)) (f3 : τ'.1 0 16 = bI false ∨ (τ'.1 0 16 = τ.1 0 16 ∧ τ'.1 0 14 = τ.1 0 14 ∧ m' = m ∧ ∀ j, 3 ≤ j → j < 15 → r j = r' j)) : CI n0 G c τ' r' m' nc' nk' := by
  obtain ⟨hR, hM, hJ, hP, hG, hW, hT⟩ := hC
  have e : ∀ a, (73 ≤ a ∧ a < 147) ∨ 192 ≤ a → τ'.1 a = τ.1 a := fun a h => (hs a h).1
  refine ⟨hr, hm, JdA_eq (fun a h => e a (by omega)) hJ, PrT_eq (hs 95 (by omega)).2.2 hP, ?_, ?_, ?_⟩
  · rcases f1 with z | ⟨z1, z2⟩
    · exact Or.inl z
    · rcases hG with y | ⟨y1, y2⟩
      · exact Or.inl (z1.trans y)
      · exact Or.inr ⟨z1.trans y1, xGp_eq (fun a h1 h2 => e a (by omega)) (xGp_ext z2 y2)⟩
  · rcases f2 with z | ⟨z1, z2, z3, z4⟩
    · exact Or.inl z
    · rcases hW with y | ⟨y1, y2, y3⟩
      · exact Or.inl (z1.trans y)
      · subst z3
        exact Or.inr ⟨z1.trans y1, z2.trans y2, xWk_eq (fun a h1 h2 => e a (by omega)) (fun a h1 h2 => (hs a (by omega)).2.1) (xWk_ext z4 hr.1.2.2.2.1 y3)⟩
  · rcases f3 with z | ⟨z1, z2, z3, z4⟩
    · exact Or.inl z
    · rcases hT with y | ⟨y1, y2, y3⟩
      · exact Or.inl (z1.trans y)
      · subst z3
        refine Or.inr ⟨z1.trans y1, z2.trans y2, ?_⟩
        have y3 := xTb_ext z4 y3
        refine ⟨fun z => by rw [e 94 (by omega)]; exact y3.1 z, fun z => ⟨by rw [e 94 (by omega)]; exact (y3.2 z).1, fun i hi => ?_⟩⟩
        obtain ⟨v, v1, v2, v3, v4⟩ := (y3.2 z).2 i hi
        obtain ⟨u, u1, u2, u3, u4⟩ := hP.1 i (by have := tbl_len (m := m') hr.1.1 z; omega)
        rw [v1] at u1; cases u1
        exact ⟨v, by rw [(hs 95 (by omega)).2.2]; exact v1, fun e' he => by rw [e (v + 1) (by omega)]; exact v2 e' he, by rw [e v (by omega)]; exact v3, jdO_eq (e v (by omega)) v4⟩
theorem Rl_s7 {n0 : Nat} {G : Nat → Nat → Int32} {c : XC} {τ τ' : XS} {σ σ' : MS} (hR : Rl n0 G c τ σ) (f : ∀ a, a ≠ 0 → a ≠ 71 → a ≠ 72 → a ≠ 147 → a ≠ 149 → τ'.1 a = τ.1 a) (f0 : ∀ k, 14 ≤ k → τ'.1 0 k = τ.1 0 k) (f2 : ∀ a, a ≠ 71 → a ≠ 72 → a ≠ 147 → τ'.2.1 a = τ.2.1 a ∧ τ'.2.2 a = τ.2.2 a) (g1 : σ'.1 6 = σ.1 6) (g2 : ∀ a, 164 ≤ a → a ≤ 168 → σ'.2.2.1 a = σ.2.2.1 a) (hT : ∃ t n, TpR t n τ' σ') (hO : OtR τ' σ') : Rl n0 G c τ' σ' := by
  obtain ⟨⟨m, nc, nk, hC⟩, ⟨n, x, ⟨h1, h2, h3, h4, h5⟩, h6⟩, hI, ⟨p1, p2, p3⟩, -, -⟩ := hR
  have f192 : ∀ b, 192 ≤ b → τ'.1 b = τ.1 b := fun b hb => f b (by omega) (by omega) (by omega) (by omega) (by omega)
  refine ⟨⟨m, nc, nk, ?_⟩, ⟨n, x, ⟨g1.trans h1, by rw [f 8 (by decide) (by decide) (by decide) (by decide) (by decide)]; exact h2, h3, by rw [f 8 (by decide) (by decide) (by decide) (by decide) (by decide)]; exact h4, h5⟩, fun i hi => ?_⟩, fun k hk => ?_, ⟨by rw [(f2 9 (by decide) (by decide) (by decide)).2]; exact p1, by rw [(f2 7 (by decide) (by decide) (by decide)).2]; exact p2, fun a i q ha hi e => p3 a i q ha hi (by rw [← (f2 (a + 5) (by have := isM_or ha; omega) (by have := isM_or ha; omega) (by have := isM_or ha; omega)).2]; exact e)⟩, hT, hO⟩
  · rw [g2 164 (by omega) (by omega)]
    exact CI_act2 hC hC.1 (MdR_eq (fun b b1 b2 => ⟨f b (by omega) (by omega) (by omega) (by omega) (by omega), (f2 b (by omega) (by omega) (by omega)).2⟩) f192 hC.2.1) (fun a ha => ⟨f a (by omega) (by omega) (by omega) (by omega) (by omega), (f2 a (by omega) (by omega) (by omega)).1, (f2 a (by omega) (by omega) (by omega)).2⟩) (Or.inr ⟨f0 14 (by omega), fun _ _ _ => rfl⟩) (Or.inr ⟨f0 15 (by omega), f0 14 (by omega), rfl, fun _ _ _ => rfl⟩) (Or.inr ⟨f0 16 (by omega), f0 14 (by omega), rfl, fun _ _ _ => rfl⟩)
  · rw [g2 165 (by omega) (by omega), g2 166 (by omega) (by omega), f 10 (by decide) (by decide) (by decide) (by decide) (by decide)]
    have hl := hxI_lt x n i
    exact ⟨MR_eq (fun b b1 b2 => ⟨f b (by omega) (by omega) (by omega) (by omega) (by omega), (f2 b (by omega) (by omega) (by omega)).2⟩) f192 (h6 i hi).1, (h6 i hi).2⟩
  · rw [g2 168 (by omega) (by omega), g2 167 (by omega) (by omega), f (150 + 6 * k) (by omega) (by omega) (by omega) (by omega) (by omega)]
    rcases hI k hk with z | ⟨z1, z2⟩
    · exact Or.inl z
    · exact Or.inr ⟨z1, MR_eq (fun b b1 b2 => ⟨f b (by omega) (by omega) (by omega) (by omega) (by omega), (f2 b (by omega) (by omega) (by omega)).2⟩) f192 z2⟩

/-- the state with a new cut -/
def nwT (c : XC) (τ : XS) (kd : Int32) (g : Nat → Int32) : XS := (xupd (xupd (xupd (xupd τ.1 (192 + 4 * c.1) (fun _ => kd)) (192 + 4 * c.1 + 1) (fun k => if k = 4 then -nI 1 else nI 0)) (192 + 4 * c.1 + 2) (fun _ => nI 0)) (192 + 4 * c.1 + 3) g, τ.2)
def nwC (c : XC) (n : Nat) : XC := (c.1 + 1, xupd c.2 (192 + 4 * c.1 + 3) n)
theorem xcl_cg {N N' : Nat → Nat} {τ τ' : XS} {b : Nat} (e : τ'.1 b = τ.1 b) (e2 : τ'.2 = τ.2) (e3 : N' b = N b) : xcl N' τ' b = xcl N τ b := by
  simp only [xcl, xfCornerCuts, xfModel, xfHistory, xfCut, xfValues, xfGroup, xfSpread, xfWalks, xfJudge, xfTable, xfTape, e, e2, e3]
theorem nwT_lo {c : XC} {τ : XS} {kd : Int32} {g : Nat → Int32} {a : Nat} (h : a < 192 + 4 * c.1) : (nwT c τ kd g).1 a = τ.1 a := by
  show xupd (xupd (xupd (xupd τ.1 _ _) _ _) _ _) _ _ a = _
  rw [xupd_ne (by omega), xupd_ne (by omega), xupd_ne (by omega), xupd_ne (by omega)]
theorem new_eq (h : AH) (c : XC) (τ : XS) (kd : Int32) (n : Nat) (g : Nat → Int32) : xnew (xnew (xnew (xnew (mkX h c τ) (.inr (0, [.int kd, .ref (192 + 4 * c.1 + 3), .ref (192 + 4 * c.1 + 1)]))) (.inr (8, [.ref (192 + 4 * c.1 + 2), .int (nI 0), .int (nI 0), .int (nI 0), .int (-nI 1), .int (nI 0), .int (nI 0), .int (nI 0)]))) (.inl (.int, 24, .inl (fun _ => nI 0)))) (.inl (.int, n, .inl g)) = mkX h (nwC c n) (nwT c τ kd g) := by
  refine Prod.ext (by show 192 + 4 * c.1 + 1 + 1 + 1 + 1 = 192 + 4 * (c.1 + 1); omega) (funext fun a => ?_)
  show (if a = 192 + 4 * c.1 + 1 + 1 + 1 then _ else if a = 192 + 4 * c.1 + 1 + 1 then _ else if a = 192 + 4 * c.1 + 1 then _ else if a = 192 + 4 * c.1 then _ else (if a < 162 then xcl c.2 τ a else if a < 192 then h.2 a else if a < 192 + 4 * c.1 then xcl c.2 τ a else none)) = (if a < 162 then xcl (nwC c n).2 (nwT c τ kd g) a else if a < 192 then h.2 a else if a < 192 + 4 * (c.1 + 1) then xcl (nwC c n).2 (nwT c τ kd g) a else none)
  have sh : ∀ b, 192 ≤ b → shp b = if b % 4 = 0 then (1, 0) else if b % 4 = 1 then (9, 0) else if b % 4 = 2 then (12, 24) else (17, 0) := fun b hb => by rw [shp, if_neg (by omega)]
  have lo : a < 192 + 4 * c.1 → xcl (nwC c n).2 (nwT c τ kd g) a = xcl c.2 τ a := fun hl => xcl_cg (nwT_lo hl) rfl (xupd_ne (by omega))
  by_cases e3 : a = 192 + 4 * c.1 + 1 + 1 + 1
  · subst e3
    rw [if_pos rfl, if_neg (by omega), if_neg (by omega), if_pos (by omega), xc_17 (by rw [sh _ (by omega), if_neg (by omega), if_neg (by omega), if_neg (by omega)])]
    have e1 : (nwC c n).2 (192 + 4 * c.1 + 1 + 1 + 1) = n := xupd_eq
    have e2 : (nwT c τ kd g).1 (192 + 4 * c.1 + 1 + 1 + 1) = g := xupd_eq
    rw [e1, e2]
  · rw [if_neg e3]
    by_cases e2 : a = 192 + 4 * c.1 + 1 + 1
    · subst e2
      rw [if_pos rfl, if_neg (by omega), if_neg (by omega), if_pos (by omega), xc_12 (n := 24) (by rw [sh _ (by omega), if_neg (by omega), if_neg (by omega), if_pos (by omega)])]
      have e2 : (nwT c τ kd g).1 (192 + 4 * c.1 + 1 + 1) = fun _ => nI 0 := by
        show xupd (xupd (xupd (xupd τ.1 _ _) _ _) (192 + 4 * c.1 + 2) _) _ _ (192 + 4 * c.1 + 2) = _
        rw [xupd_ne (by omega), xupd_eq]
      rw [e2]
    · rw [if_neg e2]
      by_cases e1 : a = 192 + 4 * c.1 + 1
      · subst e1
        rw [if_pos rfl, if_neg (by omega), if_neg (by omega), if_pos (by omega), xc_Values (by rw [sh _ (by omega), if_neg (by omega), if_pos (by omega)])]
        have e2 : (nwT c τ kd g).1 (192 + 4 * c.1 + 1) = fun k => if k = 4 then -nI 1 else nI 0 := by
          show xupd (xupd (xupd (xupd τ.1 _ _) (192 + 4 * c.1 + 1) _) _ _) _ _ (192 + 4 * c.1 + 1) = _
          rw [xupd_ne (by omega), xupd_ne (by omega), xupd_eq]
        rw [xfValues, e2]; rfl
      · rw [if_neg e1]
        by_cases e0 : a = 192 + 4 * c.1
        · subst e0
          rw [if_pos rfl, if_neg (by omega), if_neg (by omega), if_pos (by omega), xc_Cut (by rw [sh _ (by omega), if_pos (by omega)])]
          have e2 : (nwT c τ kd g).1 (192 + 4 * c.1) = fun _ => kd := by
            show xupd (xupd (xupd (xupd τ.1 (192 + 4 * c.1) _) _ _) _ _) _ _ (192 + 4 * c.1) = _
            rw [xupd_ne (by omega), xupd_ne (by omega), xupd_ne (by omega), xupd_eq]
          rw [xfCut, e2]
        · rw [if_neg e0]
          by_cases l1 : a < 162
          · rw [if_pos l1, if_pos l1, lo (by omega)]
          · rw [if_neg l1, if_neg l1]
            by_cases l2 : a < 192
            · rw [if_pos l2, if_pos l2]
            · rw [if_neg l2, if_neg l2]
              by_cases l3 : a < 192 + 4 * c.1
              · rw [if_pos l3, if_pos (by omega), lo l3]
              · rw [if_neg l3, if_neg (by omega)]
