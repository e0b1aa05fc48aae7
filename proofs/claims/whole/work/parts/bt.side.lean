/-! refusals, what stands beside the row -/
theorem xupd_sm {α : Type} {f : Nat → α} {a : Nat} {x : α} (h : f a = x) : xupd f a x = f := by
  funext k
  by_cases e : k = a
  · rw [e, xupd_eq, h]
  · rw [xupd_ne e]
theorem Rl_side {n0 : Nat} {G : Nat → Nat → Int32} {c : XC} {τ τ' : XS} {σ σ' : MS} (hR : Rl n0 G c τ σ) (f : ∀ a, a ≠ 0 → a ≠ 71 → a ≠ 72 → a ≠ 149 → τ'.1 a = τ.1 a) (f0 : ∀ k, 14 ≤ k → τ'.1 0 k = τ.1 0 k) (f2 : τ'.2 = τ.2) (g1 : σ'.1 6 = σ.1 6) (g2 : ∀ a, 164 ≤ a → a ≤ 168 → σ'.2.2.1 a = σ.2.2.1 a) (hT : ∃ t n, TpR t n τ' σ') (hO : OtR τ' σ') : Rl n0 G c τ' σ' := by
  obtain ⟨⟨m, nc, nk, hC⟩, ⟨n, x, ⟨h1, h2, h3, h4, h5⟩, h6⟩, hI, ⟨p1, p2, p3⟩, -, -⟩ := hR
  have f192 : ∀ b, 192 ≤ b → τ'.1 b = τ.1 b := fun b hb => f b (by omega) (by omega) (by omega) (by omega)
  have e2 : τ'.2.2 = τ.2.2 := by rw [f2]
  refine ⟨⟨m, nc, nk, ?_⟩, ⟨n, x, ⟨g1.trans h1, by rw [f 8 (by decide) (by decide) (by decide) (by decide)]; exact h2, h3, by rw [f 8 (by decide) (by decide) (by decide) (by decide)]; exact h4, h5⟩, fun i hi => ?_⟩, fun k hk => ?_, ⟨by rw [e2]; exact p1, by rw [e2]; exact p2, by rw [e2]; exact p3⟩, hT, hO⟩
  · rw [g2 164 (by omega) (by omega)]
    exact CI_act hC hC.1 (MdR_eq (fun b b1 b2 => ⟨f b (by omega) (by omega) (by omega) (by omega), by rw [e2]⟩) f192 hC.2.1) (fun a ha => ⟨f a (by omega) (by omega) (by omega) (by omega), by rw [f2], by rw [f2]⟩) (Or.inr ⟨f0 14 (by omega), fun _ _ _ => rfl⟩) (Or.inr ⟨f0 15 (by omega), f0 14 (by omega), rfl, fun _ _ _ => rfl⟩) (Or.inr ⟨f0 16 (by omega), f0 14 (by omega), rfl, fun _ _ _ => rfl⟩)
  · rw [g2 165 (by omega) (by omega), g2 166 (by omega) (by omega), f 10 (by decide) (by decide) (by decide) (by decide)]
    have hl := hxI_lt x n i
    exact ⟨MR_eq (fun b b1 b2 => ⟨f b (by omega) (by omega) (by omega) (by omega), by rw [e2]⟩) f192 (h6 i hi).1, (h6 i hi).2⟩
  · rw [g2 168 (by omega) (by omega), g2 167 (by omega) (by omega), f (150 + 6 * k) (by omega) (by omega) (by omega) (by omega)]
    rcases hI k hk with z | ⟨z1, z2⟩
    · exact Or.inl z
    · exact Or.inr ⟨z1, MR_eq (fun b b1 b2 => ⟨f b (by omega) (by omega) (by omega) (by omega), by rw [e2]⟩) f192 z2⟩
theorem Rl_ref {n0 : Nat} {G : Nat → Nat → Int32} {c : XC} {τ : XS} {σ : MS} {w : Nat} (hR : Rl n0 G c τ σ) (hw : w < 7) : Rl n0 G c (uA (uA τ 0 (xupd (τ.1 0) 12 (-nI w))) 149 (xupd (τ.1 149) w (τ.1 149 w + nI 1))) (refS (sF σ 0 (nI 0)) w) := by
  have hR' := hR
  obtain ⟨-, -, -, -, ⟨t, l, t1, t2, t3⟩, ⟨o1, o2, o3, o4⟩⟩ := hR'
  refine Rl_side hR (fun a a1 a2 a3 a4 => by rw [vA_ne _ _ a4, vA_ne _ _ a1]) (fun k hk => by rw [vA_ne _ _ (by decide), vA_eq, xupd_ne (by omega)]) rfl rfl (fun a a1 a2 => ?_) ⟨t, l, ⟨t1.1, t1.2.1, t1.2.2⟩, ?_, ?_⟩ ⟨fun i hi => ?_, ?_, ?_, o4⟩
  · show xupd σ.2.2.1 163 _ a = _
    rw [xupd_ne (by omega)]
  · rw [vA_ne _ _ (by decide), vA_ne _ _ (by decide)]; exact t2
  · rw [vA_ne _ _ (by decide), vA_ne _ _ (by decide)]; exact t3
  · show _ = xupd (σ.2.2.1 163) w (σ.2.2.1 163 w + nI 1) i
    rw [vA_eq]
    by_cases e : i = w
    · rw [e, xupd_eq, xupd_eq, o1 w hw]
    · rw [xupd_ne e, xupd_ne e]; exact o1 i hi
  · rw [vA_ne _ _ (by decide), vA_eq, xupd_eq]; rfl
  · rw [vA_ne _ _ (by decide), vA_eq, xupd_ne (by decide)]; exact o3
/-- a cell of the model, behind keeping -/
theorem kp_lo {τ τ' : XS} {x n : Nat} {s : Int32} (kp : kpF τ τ' x n s) {a : Nat} (ha : a < 8) : τ'.1 a = τ.1 a ∧ τ'.2.1 a = τ.2.1 a ∧ τ'.2.2 a = τ.2.2 a := kp.1 a (by omega) (by omega) (by omega)
theorem kp_hi {τ τ' : XS} {x n : Nat} {s : Int32} (kp : kpF τ τ' x n s) (hx : x < 10) {a : Nat} (ha : 71 ≤ a) : τ'.1 a = τ.1 a ∧ τ'.2.1 a = τ.2.1 a ∧ τ'.2.2 a = τ.2.2 a := kp.1 a (by omega) (by omega) (by omega)
theorem Rl_act {n0 : Nat} {G : Nat → Nat → Int32} {c : XC} {τ τ1 τ2 : XS} {σ : MS} {n x m nc nk m' nc' nk' : Nat} {s : Int32} {r' : Nat → Int32} (hR : Rl n0 G c τ σ) (hC : CI n0 G c τ (σ.2.2.1 164) m nc nk) (hH : HiR G c τ σ n x) (kp : kpF τ τ1 x n s) (f : ∀ a, 7 ≤ a → τ2.1 a = τ1.1 a ∧ τ2.2.1 a = τ1.2.1 a ∧ τ2.2.2 a = τ1.2.2 a) (hr : RW r' m' nc' nk') (hm : MdR G c τ2 1 r' m' nc' nk')
    (f1 : τ2.1 0 14 = bI false ∨ (τ2.1 0 14 = τ.1 0 14 ∧ ∀ j, 3 ≤ j → j < 15 → σ.2.2.1 164 j = r' j)) (f2 : τ2.1 0 15 = bI false ∨ (τ2.1 0 15 = τ.1 0 15 ∧ τ2.1 0 14 = τ.1 0 14 ∧ nc' = nc ∧ ∀ j, 3 ≤ j → j < 39 → σ.2.2.1 164 j = r' j)) (f3 : τ2.1 0 16 = bI false ∨ (τ2.1 0 16 = τ.1 0 16 ∧ τ2.1 0 14 = τ.1 0 14 ∧ m' = m ∧ ∀ j, 3 ≤ j → j < 15 → σ.2.2.1 164 j = r' j))
    (st : τ2.1 0 12 = nI 0) (ft : τ2.1 0 13 = τ.1 0 13) (hq : ∀ i q, i < 8 → τ2.2.2 6 i = some q → isQ c.1 q = true) : Rl n0 G c τ2 (sF (sA (remS (sF σ 0 (nI 0)) n s) 164 r') 1 (nI 0)) := by
  have hx := hH.1.2.2.2.2
  exact Rl_keep hR hH hC.1 hC.2.1 kp f (CI_act hC hr hm (fun a ha => ⟨(f a (by omega)).1.trans (kp_hi kp hx (by omega)).1, (f a (by omega)).2.1.trans (kp_hi kp hx (by omega)).2.1, (f a (by omega)).2.2.trans (kp_hi kp hx (by omega)).2.2⟩) f1 f2 f3) st ft hq
/-- cuts of a model that was not changed, or lost all -/
theorem mdl_cuts {G : Nat → Nat → Int32} {c : XC} {τ τ' : XS} {r r' : Nat → Int32} {m nc nk nk' : Nat} (hr : RW r m nc nk) (hm : MdR G c τ 1 r m nc nk) (hk : nk' ≤ nk) (h6 : ∀ k, k < nk' → τ'.2.2 6 k = τ.2.2 6 k) (h192 : ∀ b, 192 ≤ b → τ'.1 b = τ.1 b) (h3 : ∀ j, 3 ≤ j → j < 15 → r j = r' j) (h39 : ∀ j, 39 ≤ j → j < 439 → r j = r' j) : ∀ k, k < nk' → ∃ q, τ'.2.2 (1 + 5) k = some q ∧ isQ c.1 q = true ∧ CtR c τ' q r' k ∧ ∀ j, 3 ≤ j → j < 15 → r' j = G q j := fun k hk' => by
  have h8 := hr.2.2.1.2
  obtain ⟨q, q1, q2, q3, q4⟩ := hm.2.2.2.2.2 k (by omega)
  have hg := gl_lt hr.1.1 (hr.2.2.2.2.2.1 (by omega))
  have hD := szN_le r
  have hn := (hr.2.2.2.2.2.2 k (by omega)).2.2.1.2
  obtain ⟨e1, -, e3⟩ := gp_ext h3
  have ei : niN r k = niN r' k := by rw [niN, niN, h39 _ (by omega) (by omega)]
  refine ⟨q, (h6 k hk').trans q1, q2, CtR_eq h192 q2 ?_, fun j j1 j2 => by rw [← h3 j j1 j2]; exact q4 j j1 j2⟩
  obtain ⟨c1, c2, c3, c4, c5⟩ := q3
  refine ⟨by rw [← h39 _ (by omega) (by omega)]; exact c1, by rw [← ei]; exact c2, fun j hj => ?_, fun e he => ?_, ?_⟩
  · rw [← ei] at hj
    rw [← h39 _ (by omega) (by omega)]; exact c3 j hj
  · rw [← e1] at he
    rw [← h39 _ (by omega) (by omega)]; exact c4 e he
  · rw [← e3, ← h39 _ (by omega) (by omega)]; exact c5
