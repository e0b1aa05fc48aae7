/-! cut, asked of the class -/
theorem uA_cm (τ : XS) {a b : Nat} (f g : Nat → Int32) (h : a ≠ b) : uA (uA τ a f) b g = uA (uA τ b g) a f := by
  refine Prod.ext (funext fun j => ?_) rfl
  show xupd (xupd τ.1 a f) b g j = xupd (xupd τ.1 b g) a f j
  by_cases e : j = a
  · subst e; rw [xupd_ne h, xupd_eq, xupd_eq]
  · by_cases e2 : j = b
    · subst e2; rw [xupd_eq, xupd_ne e, xupd_eq]
    · rw [xupd_ne e2, xupd_ne e, xupd_ne e, xupd_ne e2]
section
variable {n0 : Nat} {G : Nat → Nat → Int32} {m nc nk nu x n : Nat} {t : Nat → Nat} {h : AH} {c : XC} {τ : XS} {σ : MS} {Q : Option Value → AH → Prop}
theorem HiR_qf {τ' : XS} (hq : qf τ τ') (hH : HiR G c τ σ nu x) : HiR G c τ' σ nu x := by
  obtain ⟨⟨h1, h2, h3, h4, h5⟩, h6⟩ := hH
  have e8 := (hq.1 8 (by simp only [qz]; omega)).1
  exact ⟨⟨h1, by rw [e8]; exact h2, h3, by rw [e8]; exact h4, h5⟩, fun i hi => ⟨MR_qf hq (isM_h (hxI_lt _ _ _)) (h6 i hi).1, by rw [(hq.1 10 (by simp only [qz]; omega)).1]; exact (h6 i hi).2⟩⟩
theorem Rl_made {τ6 : XS} {q kd : Nat} {vs : List Int} (hR : Rl n0 G c τ σ) (hC : CI n0 G c τ (σ.2.2.1 164) m nc nk) (hH : HiR G c τ σ nu x) (kp : kpF τ τ6 x nu (nI 6)) (h0 : 0 < szN (σ.2.2.1 164)) (hk : nk < 8) (hkd : kd < 6) (hv : vsOK m nk (szN (σ.2.2.1 164)) kd vs) (hz : cvF (σ.2.2.1 164) m kd vs (glN (σ.2.2.1 164)) ≠ 0) (hQ : isQ c.1 q = true) (e0 : τ.1 q 0 = nI kd) (e3 : c.2 (q + 3) = vs.length) (ei : ∀ j, j < vs.length → τ.1 (q + 3) j = Int32.ofInt (vs.getD j 0)) (ev : ∀ e, e < szN (σ.2.2.1 164) → τ.1 (q + 1 + 1) e = nI (cvF (σ.2.2.1 164) m kd vs e)) (es : τ.1 (q + 1) 1 = nI (cvF (σ.2.2.1 164) m kd vs (glN (σ.2.2.1 164)))) (gh : ∀ j, 3 ≤ j → j < 15 → (σ.2.2.1 164) j = G q j) :
    Rl n0 G c (uP (uA (uA τ6 0 (xupd (τ6.1 0) 12 (nI 0))) 1 (xupd (τ6.1 1) 2 (nI (nk + 1)))) 6 (xupd (τ6.2.2 6) nk (some q))) (sF (sA (remS σ nu (nI 6)) 164 (cutR (σ.2.2.1 164) nk (szN (σ.2.2.1 164)) (cvF (σ.2.2.1 164) m kd vs) kd vs)) 1 (nI 0)) := by
  have hx := hH.1.2.2.2.2
  have qo := isQ_or hQ
  generalize hr : σ.2.2.1 164 = r at *
  have rw' := RW_cut hC.1 h0 hk hkd hv hz
  have hD := szN_le r
  have hgl := gl_lt hC.1.1.1 h0
  have lo : ∀ j, j < 39 + 50 * nk → j ≠ 2 → r j = cutR r nk (szN r) (cvF r m kd vs) kd vs j := fun j h1 h2 => by
    rw [cutR, if_neg h2, if_neg (by omega), if_neg (by omega), if_neg (by omega), if_neg (by omega)]
  have h6 := hC.1.1.2.2.2.1
  refine Rl_fr (Rl_act (r' := cutR r nk (szN r) (cvF r m kd vs) kd vs) hR (by rw [hr]; exact hC) hH kp (fun a ha => ⟨by simp (disch := first | omega | assumption) only [vA_eq, vA_ne, vA_2, vL_1, vL_22, vP_1, vP_21, vP_eq, vP_ne, xupd_eq, xupd_ne], rfl, by simp (disch := first | omega | assumption) only [vA_eq, vA_ne, vA_2, vL_1, vL_22, vP_1, vP_21, vP_eq, vP_ne, xupd_eq, xupd_ne]⟩) rw' ⟨⟨?_, ?_, ?_⟩, fun j hj => ?_, fun j hj => ?_, fun j i hj hi => ?_, fun j hj => ?_, fun k hk' => ?_⟩ (Or.inr ⟨?_, fun j j1 j2 => by rw [hr]; exact lo j (by omega) (by omega)⟩) (Or.inr ⟨?_, ?_, rfl, fun j j1 j2 => by rw [hr]; exact lo j (by omega) (by omega)⟩) (Or.inr ⟨?_, ?_, rfl, fun j j1 j2 => by rw [hr]; exact lo j (by omega) (by omega)⟩) ?_ ?_ (fun i q' hi e => ?_)) (fr_F2 (fr_A2 (fr_rem ?_ _ _) _ _) _ _)
  · simp (disch := first | omega | assumption) only [vA_eq, vA_ne, vA_2, vL_1, vL_22, vP_1, vP_21, vP_eq, vP_ne, xupd_eq, xupd_ne]; rw [(kp_lo kp (a := 1) (by omega)).1]; exact hC.2.1.1.1
  · simp (disch := first | omega | assumption) only [vA_eq, vA_ne, vA_2, vL_1, vL_22, vP_1, vP_21, vP_eq, vP_ne, xupd_eq, xupd_ne]; rw [(kp_lo kp (a := 1) (by omega)).1]; exact hC.2.1.1.2.1
  · simp (disch := first | omega | assumption) only [vA_eq, vA_ne, vA_2, vL_1, vL_22, vP_1, vP_21, vP_eq, vP_ne, xupd_eq, xupd_ne]
  · rw [← lo _ (by omega) (by omega)]
    simp (disch := first | omega | assumption) only [vA_eq, vA_ne, vA_2, vL_1, vL_22, vP_1, vP_21, vP_eq, vP_ne, xupd_eq, xupd_ne]; rw [(kp_lo kp (a := 1 + 1) (by omega)).1]; exact hC.2.1.2.1 j hj
  · rw [← lo _ (by omega) (by omega)]
    simp (disch := first | omega | assumption) only [vA_eq, vA_ne, vA_2, vL_1, vL_22, vP_1, vP_21, vP_eq, vP_ne, xupd_eq, xupd_ne]; rw [(kp_lo kp (a := 1 + 2) (by omega)).1]; exact hC.2.1.2.2.1 j hj
  · rw [← lo _ (by omega) (by omega)]
    simp (disch := first | omega | assumption) only [vA_eq, vA_ne, vA_2, vL_1, vL_22, vP_1, vP_21, vP_eq, vP_ne, xupd_eq, xupd_ne]; rw [(kp_lo kp (a := 1 + 3) (by omega)).1]; exact hC.2.1.2.2.2.1 j i hj hi
  · rw [← lo _ (by omega) (by omega)]
    simp (disch := first | omega | assumption) only [vA_eq, vA_ne, vA_2, vL_1, vL_22, vP_1, vP_21, vP_eq, vP_ne, xupd_eq, xupd_ne]; rw [(kp_lo kp (a := 1 + 4) (by omega)).1]; exact hC.2.1.2.2.2.2.1 j hj
  · have f192 : ∀ b, 192 ≤ b → (uP (uA (uA τ6 0 (xupd (τ6.1 0) 12 (nI 0))) 1 (xupd (τ6.1 1) 2 (nI (nk + 1)))) 6 (xupd (τ6.2.2 6) nk (some q))).1 b = τ.1 b := fun b hb => by simp (disch := first | omega | assumption) only [vA_eq, vA_ne, vA_2, vL_1, vL_22, vP_1, vP_21, vP_eq, vP_ne, xupd_eq, xupd_ne]; exact (kp_hi kp hx (by omega)).1
    by_cases e : k = nk
    · subst e
      have en : niN (cutR r k (szN r) (cvF r m kd vs) kd vs) k = vs.length := by
        have vl := vs_len hC.1.2.1.2.2 hD hkd hv
        rw [niN, cutR, if_neg (by omega), if_neg (by omega), if_neg (by omega), if_pos rfl, nI_toInt (by omega), Int.toNat_natCast]
      obtain ⟨g1, -, g3⟩ := gp_ext (r := r) (r' := cutR r k (szN r) (cvF r m kd vs) kd vs) (fun j j1 j2 => lo j (by omega) (by omega))
      refine ⟨q, by show xupd (τ6.2.2 6) k (some q) k = _; rw [xupd_eq], hQ, ⟨?_, ?_, fun j hj => ?_, fun e he => ?_, ?_⟩, fun j j1 j2 => by rw [← lo j (by omega) (by omega)]; exact gh j j1 j2⟩
      · rw [f192 q (by omega), e0, cutR, if_neg (by omega), if_neg (by omega), if_pos rfl]
      · rw [en]; exact e3
      · rw [en] at hj
        have vl := vs_len hC.1.2.1.2.2 hD hkd hv
        rw [f192 _ (by omega), ei j hj, cutR, if_neg (by omega), if_neg (by omega), if_neg (by omega), if_neg (by omega), if_pos (by omega), Nat.add_sub_cancel_left, if_pos hj]
      · rw [← g1] at he
        rw [f192 _ (by omega), ev e he, cutR, if_neg (by omega), if_pos (by omega), Nat.add_sub_cancel_left, if_pos he]
      · rw [f192 _ (by omega), es, ← g3, cutR, if_neg (by omega), if_pos (by omega), Nat.add_sub_cancel_left, if_pos hgl]
    · exact mdl_cutk hC.1 hC.2.1 (show k < nk by omega) (by show xupd (τ6.2.2 6) nk (some q) k = _; rw [xupd_ne e, (kp_lo kp (a := 6) (by omega)).2.2]) f192 (fun j j1 j2 => lo j (by omega) (by omega)) (fun j j1 j2 => lo j (by omega) (by omega))
  · simp (disch := first | omega | assumption) only [vA_eq, vA_ne, vA_2, vL_1, vL_22, vP_1, vP_21, vP_eq, vP_ne, xupd_eq, xupd_ne]; rw [(kp_lo kp (by omega)).1]
  · simp (disch := first | omega | assumption) only [vA_eq, vA_ne, vA_2, vL_1, vL_22, vP_1, vP_21, vP_eq, vP_ne, xupd_eq, xupd_ne]; rw [(kp_lo kp (by omega)).1]
  · simp (disch := first | omega | assumption) only [vA_eq, vA_ne, vA_2, vL_1, vL_22, vP_1, vP_21, vP_eq, vP_ne, xupd_eq, xupd_ne]; rw [(kp_lo kp (by omega)).1]
  · simp (disch := first | omega | assumption) only [vA_eq, vA_ne, vA_2, vL_1, vL_22, vP_1, vP_21, vP_eq, vP_ne, xupd_eq, xupd_ne]; rw [(kp_lo kp (by omega)).1]
  · simp (disch := first | omega | assumption) only [vA_eq, vA_ne, vA_2, vL_1, vL_22, vP_1, vP_21, vP_eq, vP_ne, xupd_eq, xupd_ne]; rw [(kp_lo kp (by omega)).1]
  · simp (disch := first | omega | assumption) only [vA_eq, vA_ne, vA_2, vL_1, vL_22, vP_1, vP_21, vP_eq, vP_ne, xupd_eq, xupd_ne]
  · simp (disch := first | omega | assumption) only [vA_eq, vA_ne, vA_2, vL_1, vL_22, vP_1, vP_21, vP_eq, vP_ne, xupd_eq, xupd_ne]; rw [(kp_lo kp (by omega)).1]
  · have e : xupd (τ6.2.2 6) nk (some q) i = some q' := e
    by_cases ei' : i = nk
    · rw [ei', xupd_eq] at e; cases e; exact hQ
    · rw [xupd_ne ei', (kp_lo kp (a := 6) (by omega)).2.2] at e
      exact hR.2.2.2.1.2.2 1 i q' rfl hi e
  · refine ⟨fun k hk' => ?_, fun a _ => rfl, fun a _ => rfl⟩
    show σ.1 k = xupd σ.1 0 (nI 0) k
    rw [xupd_ne (fun z => hk' (by rw [z]; decide))]
end
