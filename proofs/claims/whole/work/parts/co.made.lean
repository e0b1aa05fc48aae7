/-! a cut is made: what stands behind it -/
section
variable {n0 : Nat} {G : Nat → Nat → Int32} {c : XC} {τ : XS} {σ : MS} {n : Nat} {r0 : Nat → Int32}
theorem CtR_uq {τ' : XS} {q k : Nat} {r : Nat → Int32} (hlo : ∀ a, a < 192 + 4 * c.1 → τ'.1 a = τ.1 a ∧ τ'.2.1 a = τ.2.1 a ∧ τ'.2.2 a = τ.2.2 a) (hq : isQ c.1 q = true) (hc : CtR c τ q r k) : CtR (nwC c n) τ' q r k := by
  have z := isQ_or hq
  have e3 : (nwC c n).2 (q + 3) = c.2 (q + 3) := xupd_ne (by omega)
  rw [CtR, (hlo _ (show q < 192 + 4 * c.1 by omega)).1, (hlo _ (show q + 3 < 192 + 4 * c.1 by omega)).1, (hlo _ (show q + 1 + 1 < 192 + 4 * c.1 by omega)).1, (hlo _ (show q + 1 < 192 + 4 * c.1 by omega)).1, e3]
  exact hc
theorem MdR_uq {τ' : XS} {a m nc nk : Nat} {r : Nat → Int32} (hlo : ∀ a, a < 192 + 4 * c.1 → τ'.1 a = τ.1 a ∧ τ'.2.1 a = τ.2.1 a ∧ τ'.2.2 a = τ.2.2 a) (ha : isM a = true) (hm : MdR G c τ a r m nc nk) : MdR (nwG G c r0) (nwC c n) τ' a r m nc nk := by
  have oa := isM_or ha
  rw [MdR, (hlo _ (show a < 192 + 4 * c.1 by omega)).1, (hlo _ (show a + 1 < 192 + 4 * c.1 by omega)).1, (hlo _ (show a + 2 < 192 + 4 * c.1 by omega)).1, (hlo _ (show a + 3 < 192 + 4 * c.1 by omega)).1, (hlo _ (show a + 4 < 192 + 4 * c.1 by omega)).1]
  refine ⟨hm.1, hm.2.1, hm.2.2.1, hm.2.2.2.1, hm.2.2.2.2.1, fun k hk => ?_⟩
  obtain ⟨q, q1, q2, q3, q4⟩ := hm.2.2.2.2.2 k hk
  have z := isQ_or q2
  exact ⟨q, by rw [(hlo (a + 5) (by omega)).2.2]; exact q1, isQ_up q2, CtR_uq hlo q2 q3, fun j j1 j2 => by rw [nwG, if_neg (by omega)]; exact q4 j j1 j2⟩
theorem MR_uq {τ' : XS} {a : Nat} {r : Nat → Int32} (hlo : ∀ a, a < 192 + 4 * c.1 → τ'.1 a = τ.1 a ∧ τ'.2.1 a = τ.2.1 a ∧ τ'.2.2 a = τ.2.2 a) (ha : isM a = true) (hm : MR G c τ a r) : MR (nwG G c r0) (nwC c n) τ' a r := by
  obtain ⟨m, nc, nk, h3, h4⟩ := hm
  exact ⟨m, nc, nk, h3, MdR_uq hlo ha h4⟩
theorem CI_uq {τ' : XS} {r : Nat → Int32} {m nc nk : Nat} (hlo : ∀ a, a < 192 + 4 * c.1 → τ'.1 a = τ.1 a ∧ τ'.2.1 a = τ.2.1 a ∧ τ'.2.2 a = τ.2.2 a) (hj : τ'.1 (192 + 4 * c.1 + 1) 2 = bI false) (hC : CI n0 G c τ r m nc nk) : CI n0 (nwG G c r0) (nwC c n) τ' r m nc nk := by
  obtain ⟨hR, hM, hJ, hP, hG, hW, hT⟩ := hC
  have lo : ∀ a, a < 192 → τ'.1 a = τ.1 a := fun a ha => (hlo a (by omega)).1
  refine ⟨hR, MdR_uq hlo rfl hM, fun q hq => ?_, PrT_eq (hlo 95 (by omega)).2.2 hP, ?_, ?_, ?_⟩
  · by_cases e : q = 192 + 4 * c.1
    · subst e
      exact Or.inl hj
    · have q' := isQ_dn hq e
      have z := isQ_or q'
      have ev : vlX τ' (q + 1) = vlX τ (q + 1) := by funext e'; rw [vlX, vlX, (hlo _ (show q + 1 + 1 < 192 + 4 * c.1 by omega)).1]
      rw [ev, nwG, if_neg e]
      exact jdO_eq ((hlo _ (by omega)).1) (hJ q q')
  · rw [FrG, lo 0 (by omega)]
    rcases hG with z | ⟨z1, z2⟩
    · exact Or.inl z
    · exact Or.inr ⟨z1, xGp_eq (fun a _ _ => lo a (by omega)) z2⟩
  · rw [FrW, lo 0 (by omega)]
    rcases hW with z | ⟨z1, z2, z3⟩
    · exact Or.inl z
    · exact Or.inr ⟨z1, z2, xWk_eq (fun a _ _ => lo a (by omega)) (fun a _ _ => (hlo a (by omega)).2.1) z3⟩
  · rw [FrT, lo 0 (by omega)]
    rcases hT with z | ⟨z1, z2, z3⟩
    · exact Or.inl z
    · refine Or.inr ⟨z1, z2, ⟨fun e0 => by rw [lo 94 (by omega)]; exact z3.1 e0, fun e0 => ⟨by rw [lo 94 (by omega)]; exact (z3.2 e0).1, fun i hi => ?_⟩⟩⟩
      obtain ⟨v, v1, v2, v3, v4⟩ := (z3.2 e0).2 i hi
      obtain ⟨u, u1, u2, u3, u4⟩ := hP.1 i (by have := tbl_len (m := m) hR.1.1 e0; omega)
      rw [v1] at u1; cases u1
      exact ⟨v, by rw [(hlo 95 (by omega)).2.2]; exact v1, fun e' he => by rw [lo (v + 1) (by omega)]; exact v2 e' he, by rw [lo v (by omega)]; exact v3, jdO_eq (lo v (by omega)) v4⟩
theorem Rl_uq {τ' : XS} (hlo : ∀ a, a < 192 + 4 * c.1 → τ'.1 a = τ.1 a ∧ τ'.2.1 a = τ.2.1 a ∧ τ'.2.2 a = τ.2.2 a) (hj : τ'.1 (192 + 4 * c.1 + 1) 2 = bI false) (hR : Rl n0 G c τ σ) : Rl n0 (nwG G c r0) (nwC c n) τ' σ := by
  obtain ⟨⟨m, nc, nk, hC⟩, ⟨nu, x, ⟨h1, h2, h3, h4, h5⟩, h6⟩, hI, ⟨p1, p2, p3⟩, ⟨t, l, t1, t2, t3⟩, ⟨o1, o2, o3, o4⟩⟩ := hR
  have lo : ∀ a, a < 192 → τ'.1 a = τ.1 a := fun a ha => (hlo a (by omega)).1
  refine ⟨⟨m, nc, nk, CI_uq hlo hj hC⟩, ⟨nu, x, ⟨h1, by rw [lo 8 (by omega)]; exact h2, h3, by rw [lo 8 (by omega)]; exact h4, h5⟩, fun i hi => ⟨MR_uq hlo (isM_h (hxI_lt _ _ _)) (h6 i hi).1, by rw [lo 10 (by omega)]; exact (h6 i hi).2⟩⟩, fun k hk => ?_, ⟨by rw [(hlo 9 (by omega)).2.2]; exact p1, by rw [(hlo 7 (by omega)).2.2]; exact p2, fun a i q ha hi e => isQ_up (p3 a i q ha hi (by rw [← (hlo (a + 5) (by have := isM_or ha; omega)).2.2]; exact e))⟩, ⟨t, l, t1, by rw [lo 71 (by omega)]; exact t2, by rw [lo 72 (by omega)]; exact t3⟩, ⟨by rw [lo 149 (by omega)]; exact o1, by rw [lo 0 (by omega)]; exact o2, by rw [lo 0 (by omega)]; exact o3, o4⟩⟩
  rw [lo (150 + 6 * k) (by omega)]
  rcases hI k hk with z | ⟨z1, z2⟩
  · exact Or.inl z
  · exact Or.inr ⟨z1, MR_uq hlo (isM_i hk) z2⟩
theorem Rl_nf {τ5 : XS} (hR : Rl n0 G c τ σ) (f : ∀ a, a < 192 + 4 * c.1 → (a < 87 ∨ 91 ≤ a) → τ5.1 a = τ.1 a ∧ τ5.2.1 a = τ.2.1 a ∧ τ5.2.2 a = τ.2.2 a) (hj : τ5.1 (192 + 4 * c.1 + 1) 2 = bI false) : Rl n0 (nwG G c r0) (nwC c n) τ5 σ := by
  obtain ⟨m, nc, nk, hC⟩ := hR.1
  let τ4 : XS := (fun a => if 87 ≤ a ∧ a < 91 then τ5.1 a else τ.1 a, fun a => if 87 ≤ a ∧ a < 91 then τ5.2.1 a else τ.2.1 a, fun a => if 87 ≤ a ∧ a < 91 then τ5.2.2 a else τ.2.2 a)
  have e1 : ∀ a, ¬ (87 ≤ a ∧ a < 91) → τ4.1 a = τ.1 a ∧ τ4.2.1 a = τ.2.1 a ∧ τ4.2.2 a = τ.2.2 a := fun a h => ⟨if_neg h, if_neg h, if_neg h⟩
  have e2 : ∀ a, (87 ≤ a ∧ a < 91) → τ4.1 a = τ5.1 a ∧ τ4.2.1 a = τ5.2.1 a ∧ τ4.2.2 a = τ5.2.2 a := fun a h => ⟨if_pos h, if_pos h, if_pos h⟩
  have hx : xf [87, 88, 89, 90] τ τ4 := fun a ha => e1 a (fun z => ha (by simp; omega))
  have X := CI_xf hC hx (fun a ha => by simp only [List.mem_cons, List.not_mem_nil, or_false] at ha; omega) (fun hw => xWk_eq (fun a h1 h2 => (e1 a (by omega)).1) (fun a h1 h2 => (e1 a (by omega)).2.1) hw)
  have R4 : Rl n0 G c τ4 σ := Rl_q hR X.1 X.2 (fr_refl kZ aZ σ)
  refine Rl_uq (fun a ha => ?_) hj R4
  by_cases z : 87 ≤ a ∧ a < 91
  · exact ⟨(e2 a z).1.symm, (e2 a z).2.1.symm, (e2 a z).2.2.symm⟩
  · have := f a ha (by omega)
    exact ⟨this.1.trans (e1 a z).1.symm, this.2.1.trans (e1 a z).2.1.symm, this.2.2.trans (e1 a z).2.2.symm⟩
end
theorem nI_inj {a b : Nat} (ha : a < 1000) (hb : b < 1000) (h : nI a = nI b) : a = b := by
  have := congrArg Int32.toInt h
  rw [nI_toInt (by omega), nI_toInt (by omega)] at this
  omega
theorem mdl_cutk {G : Nat → Nat → Int32} {c : XC} {τ τ' : XS} {r r' : Nat → Int32} {m nc nk k : Nat} (hr : RW r m nc nk) (hm : MdR G c τ 1 r m nc nk) (hk : k < nk) (h6 : τ'.2.2 6 k = τ.2.2 6 k) (h192 : ∀ b, 192 ≤ b → τ'.1 b = τ.1 b) (h3 : ∀ j, 3 ≤ j → j < 15 → r j = r' j) (h39 : ∀ j, 39 + 50 * k ≤ j → j < 39 + 50 * k + 50 → r j = r' j) : ∃ q, τ'.2.2 (1 + 5) k = some q ∧ isQ c.1 q = true ∧ CtR c τ' q r' k ∧ ∀ j, 3 ≤ j → j < 15 → r' j = G q j := by
  have h8 := hr.2.2.1.2
  obtain ⟨q, q1, q2, q3, q4⟩ := hm.2.2.2.2.2 k hk
  have hg := gl_lt hr.1.1 (hr.2.2.2.2.2.1 (by omega))
  have hD := szN_le r
  have hn := (hr.2.2.2.2.2.2 k hk).2.2.1.2
  obtain ⟨e1, -, e3⟩ := gp_ext h3
  have ei : niN r k = niN r' k := by rw [niN, niN, h39 _ (by omega) (by omega)]
  refine ⟨q, h6.trans q1, q2, CtR_eq h192 q2 ?_, fun j j1 j2 => by rw [← h3 j j1 j2]; exact q4 j j1 j2⟩
  obtain ⟨c1, c2, c3, c4, c5⟩ := q3
  refine ⟨by rw [← h39 _ (by omega) (by omega)]; exact c1, by rw [← ei]; exact c2, fun j hj => ?_, fun e he => ?_, ?_⟩
  · rw [← ei] at hj
    rw [← h39 _ (by omega) (by omega)]; exact c3 j hj
  · rw [← e1] at he
    rw [← h39 _ (by omega) (by omega)]; exact c4 e he
  · rw [← e3, ← h39 _ (by omega) (by omega)]; exact c5
theorem c_newCut {h : AH} {c : XC} {τ : XS} {kd : Int32} {n : Nat} {Q : Option Value → AH → Prop} (hn : n ≤ 24) (K : ∀ g, (∀ i, i < n → g i = τ.1 147 i) → Q none (mkX h (nwC c n) (nwT c τ kd g))) : m_X0_init.1 [.ref (192 + 4 * c.1), .int kd, .ref 147, .int (nI n)] (xnew (mkX h c τ) (.inr (0, [.int (nI 0), .null, .null]))) Q := by
  refine c_X0_init (b := mkX h c τ) (f := τ.1 147) ((mkX_2 h c τ (xva_lt (by decide))).trans (xc_12 rfl)) (by show 192 ≤ 192 + 4 * c.1; omega) hn (fun g hg => ?_)
  have := K g hg
  rw [← new_eq] at this
  exact this
