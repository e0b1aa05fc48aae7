/-! a cut made by the reference -/
/-- a row with one more cut -/
def cutR (r : Nat → Int32) (nk D : Nat) (v : Nat → Nat) (kd : Nat) (vs : List Int) : Nat → Int32 := fun k =>
  if k = 2 then nI (nk + 1) else if 39 + 50 * nk ≤ k ∧ k < 39 + 50 * nk + 24 then (if k - (39 + 50 * nk) < D then nI (v (k - (39 + 50 * nk))) else nI 0) else if k = 39 + 50 * nk + 24 then nI kd else if k = 39 + 50 * nk + 25 then nI vs.length else if 39 + 50 * nk + 26 ≤ k ∧ k < 39 + 50 * nk + 50 then (if k - (39 + 50 * nk + 26) < vs.length then Int32.ofInt (vs.getD (k - (39 + 50 * nk + 26)) 0) else nI 0) else r k
theorem fr_A2 {ks as : List Nat} {σ τ : MS} (h : fr ks as σ τ) (a : Nat) (f : Nat → Int32) : fr ks as (sA σ a f) (sA τ a f) := by
  refine ⟨h.1, fun b hb => ?_, h.2.2⟩
  by_cases c : b = a
  · subst c; rw [gA_eq, gA_eq]
  · rw [gA_ne _ _ c, gA_ne _ _ c]; exact h.2.1 b hb
theorem fr_F2 {ks as : List Nat} {σ τ : MS} (h : fr ks as σ τ) (k : Nat) (x : Int32) : fr ks as (sF σ k x) (sF τ k x) := by
  refine ⟨fun b hb => ?_, h.2.1, h.2.2⟩
  by_cases c : b = k
  · subst c; rw [gF_eq, gF_eq]
  · rw [gF_ne _ _ c, gF_ne _ _ c]; exact h.1 b hb
theorem fr_rem {σ τ : MS} (h : fr kZ aZ σ τ) (n : Nat) (s : Int32) : fr kZ aZ (remS σ n s) (remS τ n s) := by
  have e4 := h.2.1 164 (by decide)
  have e5 := h.2.1 165 (by decide)
  have e6 := h.2.1 166 (by decide)
  rw [remS, remS]
  split
  · rw [e4, e5, e6]; exact fr_F2 (fr_A2 (fr_A2 h _ _) _ _) _ _
  · rw [e4, e5, e6]; exact fr_F2 (fr_A2 (fr_A2 h _ _) _ _) _ _
theorem fr_ref {σ τ : MS} (h : fr kZ aZ σ τ) (w : Nat) : fr kZ aZ (refS σ w) (refS τ w) := by
  rw [refS, refS, h.2.1 163 (by decide)]
  exact fr_A2 (fr_F2 h _ _) _ _
/-- behind the reading of a text -/
theorem fr_28 {σ τ1 τ2 : MS} {v : Int32} (h1 : fr kZ aZ σ τ1) (h2 : fr kK [181] τ1 τ2) (h28 : τ2.1 28 = v) : fr kZ aZ (sF (sF σ 23 (nI 0)) 28 v) (sF τ2 23 (nI 0)) := by
  refine ⟨fun k hk => ?_, fun a ha => ?_, fun a ha => ?_⟩
  · by_cases c : k = 23
    · subst c; rw [gF_eq, gF_ne _ _ (by decide), gF_eq]
    · rw [gF_ne _ _ c]
      by_cases d : k = 28
      · subst d; rw [gF_eq]; exact h28
      · rw [gF_ne _ _ d, gF_ne _ _ c, h2.1 k (fun z => ?_), h1.1 k hk]
        simp only [kK, List.mem_cons, List.not_mem_nil, or_false] at z
        simp only [kZ, List.mem_cons, List.not_mem_nil, or_false, not_or] at hk
        omega
  · rw [gF_2, gF_2, gF_2, h2.2.1 a (fun z => ha (by simp at z; rw [z]; decide)), h1.2.1 a ha]
  · rw [gF_2, gF_2, gF_2, h2.2.2 a (fun z => ha (by simp at z; rw [z]; decide)), h1.2.2 a ha]
/-- a cut: its answer, the state but for scratch -/
def fCut (r : Nat → Int32) (m nk : Nat) (t : Nat → Nat) (n nu : Nat) (σ : MS) : Int32 × MS :=
  if szN r = 0 then (-nI 4, refS (sF σ 23 (nI 0)) 4)
  else if nk = 8 then (-nI 5, refS σ 5)
  else match rdT t n m nk (szN r) with
    | .inl f => (-nI 6, refS (sF (sF σ 23 (nI 0)) 28 (nI f)) 6)
    | .inr q => if cvF r m q.1 q.2 (glN r) = 0 then (-nI 4, refS (sF (sF σ 23 (nI 0)) 28 (-nI 1)) 4) else (nI nk, sF (sA (remS (sF (sF σ 23 (nI 0)) 28 (-nI 1)) nu (nI 6)) 164 (cutR r nk (szN r) (cvF r m q.1 q.2) q.1 q.2)) 1 (nI 0))
theorem p_layValues {r : Nat → Int32} {m nc nk kd : Nat} {h : AH} {σ : MS} {Q : Option Value → AH → Prop} {vs : List Int} (hr : RW r m nc nk) (h0 : 0 < szN r) (hg : rGp r nc σ) (hk : kd < 6) (h33 : σ.1 33 = nI kd) (hv : vsOK m nk (szN r) kd vs) (hI : ∀ i, i < vs.length → (σ.2.2.1 181 i).toInt = vs.getD i 0)
    (K : ∀ σ', fr [] [182, 183, 184] σ σ' → rGp r nc σ' → (∀ e, e < szN r → σ'.2.2.1 184 e = nI (cvF r m kd vs e)) → Q none (mk h σ')) : m_X12_layValues.1 [.ref 162] (mk h σ) Q := by
  have hc : kd = 0 ∨ kd = 1 ∨ kd = 2 ∨ kd = 3 ∨ kd = 4 ∨ kd = 5 := by omega
  rcases hc with rfl | rfl | rfl | rfl | rfl | rfl
  · exact p_layValues0 hr h0 hg h33 hv hI K
  · exact p_layValues1 hr h0 hg h33 hv hI K
  · exact p_layValues2 hr h0 hg h33 hv hI K
  · exact p_layValues3 hr h0 hg h33 hv hI K
  · exact p_layValues4 hr h0 hg h33 hv hI K
  · exact p_layValues5 hr h0 hg h33 hv hI K
theorem hl_some {r : Nat → Int32} (hb : bsOK r) (h0 : 0 < szN r) {k e : Nat} (he : e < szN r) : ∃ z, hlF r k e = some z ∧ z ≤ vlN r k e := by
  have hL := sN_law hb h0
  have := lbR_le (wt := vlN r k) hL h0 (fun k hk => hk) (el := idN) (K := szN r) (szN r) [e] (by simp; omega) (fun j hj => by simp at hj; omega)
  have e1 : wpr (sNr r) idN [e] = e := hL.2.2.1 e he
  have e2 : wsm (vlN r k) [e] = vlN r k e := Nat.zero_add _
  rw [e1, e2] at this
  exact this
/-- a text's values are small -/
theorem cv_b {r : Nat → Int32} {m nc nk kd : Nat} {vs : List Int} (hr : RW r m nc nk) (h0 : 0 < szN r) (hk : kd < 6) (hv : vsOK m nk (szN r) kd vs) {e : Nat} (he : e < szN r) : cvF r m kd vs e ≤ 999 * 2 ^ nk := by
  have hD := szN_le r
  have hp : 1 ≤ 2 ^ nk := Nat.one_le_two_pow
  have hc : kd = 0 ∨ kd = 1 ∨ kd = 2 ∨ kd = 3 ∨ kd = 4 ∨ kd = 5 := by omega
  have vb : ∀ k, k < nk → ∀ e, e < 24 → vlN r k e * 2 ≤ 999 * 2 ^ nk := fun k hk e he => by
    have h1 := ((hr.2.2.2.2.2.2 k hk).1 e he).2
    have h2 : 2 ^ (k + 1) ≤ 2 ^ nk := Nat.pow_le_pow_right (by omega) hk
    rw [Nat.pow_succ] at h2
    omega
  rcases hc with rfl | rfl | rfl | rfl | rfl | rfl
  · have := gmN_le (t := 1) (p := qtN r (uvF vs 0 m)) (g := glN r) (e := e) h0 hD
    exact Nat.le_trans this (by omega)
  · have := qt_lt h0 (uvF vs 0 m) e
    show qtN r (uvF vs 0 m) e ≤ _
    omega
  · have := gmN_le (t := (vs.getD 0 0).toNat) (p := qtN r (uvF vs 1 m)) (g := glN r) (e := e) h0 hD
    exact Nat.le_trans this (by omega)
  · obtain ⟨hl, ⟨a1, a2⟩, b1, b2⟩ := vs_k3 hv
    have := vb (vs.getD 0 0).toNat (by omega) e (by omega)
    have := vb (vs.getD 1 0).toNat (by omega) e (by omega)
    show vlN r _ e + vlN r _ e ≤ _
    omega
  · obtain ⟨hl, a1, a2⟩ := vs_k4 hv
    obtain ⟨z, hz, hzl⟩ := hl_some hr.1.1 h0 (k := (vs.getD 0 0).toNat) he
    have := vb (vs.getD 0 0).toNat (by omega) e (by omega)
    show lab (hlF r _ e) ≤ _
    rw [hz]
    show z ≤ _
    omega
  · obtain ⟨hl, hlim⟩ := vs_k5 hv
    have := hlim e he
    show (vs.getD e 0).toNat ≤ _
    omega
theorem vs_len {m nk D kd : Nat} {vs : List Int} (hm : m ≤ 3) (hD : D ≤ 24) (hk : kd < 6) (hv : vsOK m nk D kd vs) : vs.length ≤ 24 := by
  have hc : kd = 0 ∨ kd = 1 ∨ kd = 2 ∨ kd = 3 ∨ kd = 4 ∨ kd = 5 := by omega
  rcases hc with rfl | rfl | rfl | rfl | rfl | rfl
  · have := (vs_k0 hv).1; omega
  · have := (vs_k1 hv).1; omega
  · have := (vs_k2 hv).1; omega
  · have := (vs_k3 hv).1; omega
  · have := (vs_k4 hv).1; omega
  · have := (vs_k5 hv).1; omega
