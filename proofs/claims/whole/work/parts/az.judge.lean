/-! a cut is judged -/
theorem rkF_cg {n0 D g : Nat} {S : Nat → Nat → Nat} {V V' : Nat → Nat} (hS : ∀ e o, e < D → o < D → S e o < D) (h : ∀ e, e < D → V e = V' e) : rkF n0 D S V g D = rkF n0 D S V' g D :=
  xff_congr (fun e x _ he => xff_congr (fun o y _ ho => by rw [rkS, rkS, h e he, h o ho, h _ (hS e o he ho)]))
theorem jdV_cg {n0 : Nat} {r r' : Nat → Int32} {V V' : Nat → Nat} {τ : XS} {a : Nat} (hL : gLaw (szN r) (sNr r)) (h0 : 0 < szN r) (hg : glN r < szN r) (he : szN r = szN r' ∧ sNr r = sNr r' ∧ glN r = glN r') (hV : ∀ e, e < szN r → V e = V' e) (h : jdV n0 r V τ a) : jdV n0 r' V' τ a := by
  have hI : ∀ e, e < szN r → vI V e = vI V' e := fun e z => by rw [vI, vI, hV e z]
  rw [jdV, rkN, syB, ← he.1, ← he.2.1, ← he.2.2, ← prA_congr hL.1 hI, ← syA_congr h0 hg hI, ← rkF_cg hL.1 hV]
  exact h
theorem CI_jq {n0 : Nat} {G : Nat → Nat → Int32} {r : Nat → Int32} {m nc nk q : Nat} {c : XC} {τ τ' : XS} (hC : CI n0 G c τ r m nc nk) (hq : isQ c.1 q = true) (hf : xf [91, 92, 93, q + 1] τ τ') (h1 : τ'.1 (q + 1) 1 = τ.1 (q + 1) 1) (hj : jdO n0 (G q) (vlX τ (q + 1)) τ' (q + 1)) : CI n0 G c τ' r m nc nk ∧ qf τ τ' := by
  obtain ⟨hR, hM, hJ, hP, hG, hW, hT⟩ := hC
  have qo := isQ_or hq
  have k : ∀ a, a ≠ 91 → a ≠ 92 → a ≠ 93 → a ≠ q + 1 → τ'.1 a = τ.1 a ∧ τ'.2.1 a = τ.2.1 a ∧ τ'.2.2 a = τ.2.2 a := fun a a1 a2 a3 a4 => hf a (fun z => by simp only [List.mem_cons, List.not_mem_nil, or_false] at z; omega)
  have k0 := (k 0 (by omega) (by omega) (by omega) (by omega)).1
  have q' : qf τ τ' := by
    refine ⟨fun a hz => k a ?_ ?_ ?_ ?_, by rw [k0], by rw [k0], fun a ha => ?_⟩
    · simp only [qz] at hz; omega
    · simp only [qz] at hz; omega
    · simp only [qz] at hz; omega
    · simp only [qz] at hz; omega
    · by_cases e : a = q + 1
      · rw [e]; exact h1
      · rw [(k a (by omega) (by omega) (by omega) e).1]
  refine ⟨⟨hR, MdR_qf q' rfl hM, fun p hp => ?_, PrT_eq (k 95 (by omega) (by omega) (by omega) (by omega)).2.2 hP, ?_, ?_, FrT_eq hR.1.1 hP k0 (fun a a1 a2 => (k a (by omega) (by omega) (by omega) (by omega)).1) (k 95 (by omega) (by omega) (by omega) (by omega)).2.2 hT⟩, q'⟩
  · have po := isQ_or hp
    have e : vlX τ' (p + 1) = vlX τ (p + 1) := by funext e; rw [vlX, vlX, (k (p + 1 + 1) (by omega) (by omega) (by omega) (by omega)).1]
    rw [e]
    by_cases ep : p = q
    · rw [ep]; exact hj
    · exact jdO_eq (k (p + 1) (by omega) (by omega) (by omega) (by omega)).1 (hJ p hp)
  · rcases hG with z | ⟨z1, z2⟩
    · exact Or.inl (by rw [k0]; exact z)
    · exact Or.inr ⟨by rw [k0]; exact z1, xGp_eq (fun a h1 h2 => (k a (by omega) (by omega) (by omega) (by omega)).1) z2⟩
  · rcases hW with z | ⟨z1, z2, z3⟩
    · exact Or.inl (by rw [k0]; exact z)
    · exact Or.inr ⟨by rw [k0]; exact z1, by rw [k0]; exact z2, xWk_eq (fun a h1 h2 => (k a (by omega) (by omega) (by omega) (by omega)).1) (fun a h1 h2 => (k a (by omega) (by omega) (by omega) (by omega)).2.1) z3⟩
theorem x_judgeQ {n0 : Nat} {G : Nat → Nat → Int32} {r : Nat → Int32} {m nc nk k q : Nat} {h : AH} {c : XC} {τ : XS} {Q : Option Value → AH → Prop} (hn0 : n0 + 1 = 1000002) (hC : CI n0 G c τ r m nc nk) (hk : k < nk) (hq : isQ c.1 q = true) (hc : cutF c τ q r (vlN r k)) (hG : ∀ j, 3 ≤ j → j < 15 → r j = G q j) (hg : xGp r τ)
    (K : ∀ τ', CI n0 G c τ' r m nc nk → qf τ τ' → xf [91, 92, 93, q + 1] τ τ' → jdV n0 r (vlN r k) τ' (q + 1) → Q none (mkX h c τ')) : m_X3_judge.1 [.ref 91, .ref (q + 1), .ref 73] (mkX h c τ) Q := by
  have hD := szN_le r
  have h0 := hC.1.2.2.2.2.2.1 (by omega)
  have hgl := gl_lt hC.1.1.1 h0
  have hL := sN_law hC.1.1.1 h0
  have vb := fun e (he : e < szN r) => ck_vb hC.1 hk (show e < 24 by omega)
  have g6 := hg.2.2 h0
  have ge := gp_ext hG
  have hVX : ∀ e, e < szN r → vlX τ (q + 1) e = vlN r k e := fun e he => by
    rw [vlX, hc.2.1 e he, nI_toInt (by have := vb e he; omega)]; rfl
  have back : ∀ τ', jdV n0 r (vlN r k) τ' (q + 1) → jdV n0 (G q) (vlX τ (q + 1)) τ' (q + 1) := fun τ' => jdV_cg hL h0 hgl ge (fun e he => (hVX e he).symm)
  have hjd := hC.2.2.1 q hq
  have hgL : gLaw (szN (G q)) (sNr (G q)) := by rw [← ge.1, ← ge.2.1]; exact hL
  have forth : jdV n0 (G q) (vlX τ (q + 1)) τ (q + 1) → jdV n0 r (vlN r k) τ (q + 1) := jdV_cg hgL (by rw [← ge.1]; exact h0) (by rw [← ge.1, ← ge.2.2]; exact hgl) ⟨ge.1.symm, ge.2.1.symm, ge.2.2.symm⟩ (fun e he => hVX e (by rw [ge.1]; exact he))
  have J : ∀ jd, τ.1 (q + 1) 2 = bI jd → (jd = true → Q none (mkX h c τ)) → m_X3_judge.1 [.ref 91, .ref (q + 1), .ref 73] (mkX h c τ) Q := fun jd e K1 => x_judge (V := vlN r k) hn0 hL h0 hD hc.1 hgl hg.1 g6.1 g6.2.2.2.2.2 hc.2.1 vb hc.2.2 e K1 (fun τ' j2 j3 j4 j5 j6 j7 jf j1 => by
    have jv : jdV n0 r (vlN r k) τ' (q + 1) := by
      refine ⟨j3, j4, j5, ?_, ?_⟩
      · rw [j6, rkN]
        have := rkL_F n0 (szN r) (sNr r) (vlN r k) (glN r) (szN r - 1)
        rw [Nat.sub_add_cancel h0] at this
        rw [this]
      · rw [j7, syJ_A hL h0 hgl vb]; rfl
    have X := CI_jq hC hq jf j1 (Or.inr ⟨j2, back τ' jv⟩)
    exact K τ' X.1 X.2 jf jv)
  rcases hjd with z | ⟨z1, z2⟩
  · exact J false z (fun z => absurd z (by simp))
  · exact J true z1 (fun _ => K τ hC (qf_refl τ) (xf_refl _ τ) (forth z2))
