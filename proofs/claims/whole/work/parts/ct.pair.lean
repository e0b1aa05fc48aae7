/-! class and reference on one heap -/
theorem mxk (h : AH) (c : XC) (τ : XS) (σ : MS) : mk (mkX h c τ) σ = mkX (mk h σ) c τ := by
  refine Prod.ext rfl (funext fun a => ?_)
  show (if 162 ≤ a ∧ a ≤ 191 then mcell σ a else if a < 162 then xcl c.2 τ a else if a < 192 then h.2 a else if a < 192 + 4 * c.1 then xcl c.2 τ a else none) = if a < 162 then xcl c.2 τ a else if a < 192 then (if 162 ≤ a ∧ a ≤ 191 then mcell σ a else h.2 a) else if a < 192 + 4 * c.1 then xcl c.2 τ a else none
  by_cases c1 : a < 162
  · rw [if_neg (by omega), if_pos c1, if_pos c1]
  · by_cases c2 : a < 192
    · rw [if_pos (by omega), if_neg c1, if_pos c2, if_pos (by omega)]
    · rw [if_neg (by omega), if_neg c1, if_neg c2, if_neg c1, if_neg c2]
theorem lq_gk {c : List Value → Nat × Nat → AH → (Bool → Nat × Nat → AH → Prop) → Prop} {b u : List Value → Nat × Nat → AH → xPo → xPo → xPo → (Option Value → AH → Prop) → Prop} {N : xPo} {R : Option Value → AH → Prop} {k : Nat × Nat} {L : List Value} {H : AH} {S : Type} (I : S → Prop) (μ : S → Nat) (Lf : S → List Value) (kf : S → Nat × Nat) (Hf : S → AH) (s0 : S) (hL : Lf s0 = L) (hk : kf s0 = k) (hH : Hf s0 = H) (h0 : I s0)
    (hs : ∀ (s : S) (P : xPo), I s → (∀ s' : S, I s' → μ s' < μ s → P (Lf s') (kf s') (Hf s')) → c (Lf s) (kf s) (Hf s) (fun v k' h' => if v = true then b (Lf s) k' h' (fun L2 k2 h2 => u L2 k2 h2 P (fun _ _ _ => False) (fun _ _ _ => False) R) N (fun L2 k2 h2 => u L2 k2 h2 P (fun _ _ _ => False) (fun _ _ _ => False) R) R else N (Lf s) k' h')) {f : xFx (c, b, u, N, R)} : lq c b u N R f L k H := by
  subst hL hH hk
  refine xlp_by (σ := S) (fun s L k' h => I s ∧ L = Lf s ∧ k' = kf s ∧ h = Hf s) μ ?_ s0 _ _ _ ⟨h0, rfl, rfl, rfl⟩
  rintro s L k' h P ⟨hI, rfl, rfl, rfl⟩ hP
  exact hs s P hI (fun s' h1 h2 => hP s' _ _ _ h2 ⟨h1, rfl, rfl, rfl⟩)
theorem scr_ {P : Nat × (Nat → Int32)} {i : Nat} (hP : P.1 ≤ 4096) (h : i < P.1) : fScr P (.retAddr 0) (.int (nI i)) = some (.int (P.2 i)) := by
  have e : xinb (nI i) P.1 = true := by rw [xinb_n (by omega)]; exact decide_eq_true h
  show (if xinb (nI i) P.1 = true then some (Value.int (P.2 (nI i).toNatClampNeg)) else none) = _
  rw [if_pos e, nI_clamp (by omega)]
theorem ne_self (x : Int32) : xcm .ne x x = false := by rw [xq_ne, decide_eq_true rfl]; rfl
theorem xaf_0 {P : Nat × (Nat → Int32)} {g : xSig} {k : Nat × Nat} (hc : g.2.2.2.2.cells = 0) (hs : g.2.2.2.2.slots = 0) (h1 : k.1 ≤ 600000) (h2 : k.2 ≤ 7302250) : xaf (S_law P) g k = True := eq_true ⟨by show k.1 + g.2.2.2.2.cells ≤ 600000; omega, by show k.2 + g.2.2.2.2.slots ≤ 7302250; omega⟩
theorem okR {h : AH} {σ : MS} {c : XC} {τ : XS} : okv 11 (mkX (mk h σ) c τ) (.ref 162) = True := eq_true ⟨162, _, rfl, rfl⟩
