/-! functions in order -/
theorem lx_lt (a b : Nat → Nat) : ∀ n e, lxR a b n e = -nI 1 ↔ ∃ k, e ≤ k ∧ k < e + n ∧ a k < b k ∧ ∀ j, e ≤ j → j < k → a j = b j := by
  intro n
  induction n with
  | zero =>
    intro e
    refine ⟨fun z => absurd z (by rw [lxR]; decide), fun ⟨k, h1, h2, _⟩ => absurd h2 (by omega)⟩
  | succ n ih =>
    intro e
    rw [lxR]
    by_cases c : a e = b e
    · rw [if_pos c, ih]
      constructor
      · rintro ⟨k, h1, h2, h3, h4⟩
        refine ⟨k, by omega, by omega, h3, fun j j1 j2 => ?_⟩
        by_cases ej : j = e
        · rw [ej]; exact c
        · exact h4 j (by omega) j2
      · rintro ⟨k, h1, h2, h3, h4⟩
        have : k ≠ e := fun z => by rw [z] at h3; omega
        exact ⟨k, by omega, by omega, h3, fun j j1 j2 => h4 j (by omega) j2⟩
    · rw [if_neg c]
      by_cases c2 : a e < b e
      · rw [if_pos c2]
        exact ⟨fun _ => ⟨e, Nat.le_refl _, by omega, c2, fun j j1 j2 => absurd j2 (by omega)⟩, fun _ => rfl⟩
      · rw [if_neg c2]
        refine ⟨fun z => absurd z (by decide), fun ⟨k, h1, h2, h3, h4⟩ => ?_⟩
        by_cases ek : k = e
        · rw [ek] at h3; exact absurd h3 c2
        · exact absurd (h4 e (Nat.le_refl _) (by omega)) c
theorem lx_an (a b : Nat → Nat) : ∀ n e, lxR b a n e = -lxR a b n e := by
  intro n
  induction n with
  | zero => intro e; rw [lxR, lxR]; rfl
  | succ n ih =>
    intro e
    rw [lxR, lxR]
    by_cases c : a e = b e
    · rw [if_pos c, if_pos c.symm, ih]
    · rw [if_neg c, if_neg (fun z => c z.symm)]
      by_cases c2 : a e < b e
      · rw [if_pos c2, if_neg (by omega)]; decide
      · rw [if_neg c2, if_pos (by omega)]
theorem lx_3 (a b : Nat → Nat) : ∀ n e, lxR a b n e = nI 0 ∨ lxR a b n e = nI 1 ∨ lxR a b n e = -nI 1 := by
  intro n
  induction n with
  | zero => intro e; exact Or.inl rfl
  | succ n ih =>
    intro e
    rw [lxR]
    split
    · exact ih _
    · split
      · exact Or.inr (Or.inr rfl)
      · exact Or.inr (Or.inl rfl)
theorem lx_tr {a b d : Nat → Nat} {n : Nat} (h1 : lxR a b n 0 = -nI 1) (h2 : lxR b d n 0 = -nI 1) : lxR a d n 0 = -nI 1 := by
  rw [lx_lt] at h1 h2 ⊢
  obtain ⟨k, k0, k1, k2, k3⟩ := h1
  obtain ⟨m, m0, m1, m2, m3⟩ := h2
  by_cases c : k < m
  · exact ⟨k, k0, k1, by rw [← m3 k k0 c]; exact k2, fun j j1 j2 => by rw [k3 j j1 j2, m3 j j1 (by omega)]⟩
  · by_cases c2 : k = m
    · subst c2
      exact ⟨k, k0, k1, by omega, fun j j1 j2 => by rw [k3 j j1 j2, m3 j j1 j2]⟩
    · exact ⟨m, m0, m1, by rw [k3 m m0 (by omega)]; exact m2, fun j j1 j2 => by rw [k3 j j1 (by omega), m3 j j1 j2]⟩
/-- in rising order -/
def srt (D : Nat) (l : List (Nat → Nat)) : Prop := l.Pairwise (fun a b => lxR a b D 0 = -nI 1)
theorem srt_ins {D : Nat} {w : Nat → Nat} : ∀ l, srt D l → srt D (insL D w l)
  | [], _ => by simp [insL, srt]
  | x :: l, h => by
    rw [srt, List.pairwise_cons] at h
    rw [insL]
    by_cases c1 : lxR w x D 0 = nI 1
    · rw [if_pos c1, srt, List.pairwise_cons]
      refine ⟨fun y hy => ?_, srt_ins l h.2⟩
      rcases insL_mem _ _ _ _ hy with e | e
      · rw [e, lx_an, c1]
      · exact h.1 y e
    · rw [if_neg c1]
      by_cases c2 : lxR w x D 0 = nI 0
      · rw [if_pos c2, srt, List.pairwise_cons]; exact h
      · rw [if_neg c2, srt, List.pairwise_cons]
        have c3 : lxR w x D 0 = -nI 1 := by
          rcases lx_3 w x D 0 with z | z | z
          · exact absurd z c2
          · exact absurd z c1
          · exact z
        refine ⟨fun y hy => ?_, by rw [List.pairwise_cons]; exact h⟩
        rcases List.mem_cons.mp hy with e | e
        · rw [e]; exact c3
        · exact lx_tr c3 (h.1 y e)
theorem srt_tbF (r : Nat → Int32) (l : List T3) : srt (szN r) (tbF r l) := by
  have key : ∀ (l : List T3) (tb : List (Nat → Nat)), srt (szN r) tb → srt (szN r) (l.foldl (tbS r) tb) := by
    intro l
    induction l with
    | nil => intro tb h; exact h
    | cons w l ih =>
      intro tb h
      rw [List.foldl_cons]
      refine ih _ ?_
      rw [tbS]
      split
      · exact h
      · exact srt_ins tb h
  exact key l [] (by simp [srt])
theorem x_compareWith {D v o : Nat} {A B : Nat → Nat} {h : AH} {c : XC} {τ : XS} {Q : Option Value → AH → Prop} (hD : D ≤ 24) (hv : isV c.1 v = true) (ho : isV c.1 o = true) (g0 : τ.1 73 0 = nI D) (hA : ∀ e, e < D → τ.1 (v + 1) e = nI (A e) ∧ A e ≤ 1000000) (hB : ∀ e, e < D → τ.1 (o + 1) e = nI (B e) ∧ B e ≤ 1000000) (K : Q (some (.int (lxR A B D 0))) (mkX h c τ)) : m_X8_compareWith.1 [.ref v, .ref o, .ref 73] (mkX h c τ) Q := by
  have hvo := isV_or hv
  have hoo := isV_or ho
  refine (xM_iff (g := g_X8_compareWith) (b := b_X8_compareWith) [.ref v, .ref o, .ref 73, xjk] (Nat.le_of_ble_eq_true rfl) rfl).mpr ?_
  simp (disch := first | assumption | omega | decide | rfl | (simp (disch := omega) only [vA_eq, vA_ne, vA_2, vL_1, vL_eq, vL_ne, vL_22, vP_1, vP_21, vP_eq, vP_ne, xupd_ne, xupd_e2, not_false_eq_true, implies_true, *])) only [b_X8_compareWith, g_X8_compareWith, zPIc, zPBi, zPSi, zPLdc, zPLdcw, zPLd2, zPLc, zPNull, zPIn, zPI, zPLn, zPL, zPAn, zPA, zPStr, zPCs, zPU, zPB, zPBv, zPTn, zCIf, zCCm, zCNl, zCNot, zCAnd, zCOr, zOAdd, zOSub, zOMul, zOAnd, zOOr, zOXor, zOShl, zOShr, zOUshr, zODiv, zORem, zOAddL, zOSubL, zOMulL, zOAndL, zOXorL, zORemL, zOShlL, zOShrL, zOCmpL, zOIald, zOLald, zOZald, zOAald, zOI2l, zOL2i, zONeg, zONegL, zOGet, zOAlen, zOScrL, zOScr, zOSv, zOScd, zOBln, zOBld, zOI2c, zLIn, zLI, zLLn, zLL, zLAn, zLA, zQPut, zTI, zTL, zTZ, zTA, ↓yEP, ↓yEU, ↓yEB, ↓yDC, ↓yDIf, ↓yDCm, ↓zDNot, ↓zDAnd, ↓zDOr, ↓zEBv, ↓zETn, ↓zAN, ↓zAC, ↓yKV, ↓yKS, ↓yKX, ↓yKAc, ↓yEK, ↓yENew, ↓yENa, ↓zSNop, ↓zSSeq, ↓zSBrk, ↓zSCnt, ↓zSSB, ↓zSSC, ↓zSSc, ↓zSIf, ↓zSIfE, ↓zSIfR, ↓zSIfB, ↓zSIfC, ↓zSDead, ↓ySSt, ↓ySInc, ↓ySPut, ↓ySPutC, ↓ySAst, ↓ySAstC, ↓ySK, ↓ySKp, ↓zSRv, ↓ySR, ↓ySLp, ↓ySWh, ↓ySSw, ob_s, ob_n, gd_t, gd_f, okx_r, xai_i, li0, lis, ll0, lls, la0, la0n, la0r, las, xs1_0, xs1_1, xs1_s, xs2_0, xs2_1, xs2_s, xisl_i, xisl_r, xisl_n, xisl_a, xisl_j, xisl_l, si_0, si_1, si_s, sl_0, sl_1, sl_s, sa_0, sa_1, sa_s, inc_, ii_, iz_, ll_, lz_, lsh_, lc_, i2l_, l2i_, neg_, negl_, if_, cm_, nl_r, nl_n, rI_i, rI_l, rI_r, rI_n, rI_a, rv_v, rv_i, rv_l, rv_b, rv_b1, rv_b0, rv_r, rv_n, rv_a, cat_i, cat_l, cat_r, cat_n, cat_b, rI_b, if_b, bi_, si2_, Option.bind_some, Option.bind_none, Option.map_some, Option.some.injEq, exists_eq_left, exists_eq_left', List.getElem?_cons_zero, List.getElem?_cons_succ, List.length_cons, List.length_nil, ↓reduceIte, true_and, and_true, Fin.isValue, Fin.val_zero, Fin.val_one, Fin.val_two, Fin.reduceFinMk, reduceCtorEq, exists_const, Bool.false_eq_true, Nat.reduceAdd, Nat.zero_add, Nat.reduceMul, Nat.reduceLeDiff, Nat.le_refl, exists_and_left, List.set_cons_zero, List.set_cons_succ, oX_CornerCuts, xg10_0, xg10_1, xg10_2, xg10_3, xg10_4, xg10_5, xg10_6, xg10_7, xg10_8, xg10_9, xg10_10, xg10_11, xg10_12, xp10_12, xg10_13, xp10_13, xg10_14, xq10_14, xg10_15, xq10_15, xg10_16, xq10_16, oX_History, xg2_0, xg2_1, xg2_2, xp2_2, xg2_3, xp2_3, oX_Group, xg1_0, xp1_0, xg1_1, xp1_1, xg1_2, xp1_2, xg1_3, xg1_4, xg1_5, xg1_6, xg1_7, oX_Walks, xg9_0, xg9_1, xg9_2, xg9_3, xg9_4, xq9_4, xg9_5, xq9_5, xg9_6, xp9_6, oX_Judge, xg3_0, xg3_1, xg3_2, xp3_2, oX_Table, xg6_0, xp6_0, xg6_1, xg6_2, xp6_2, xg6_3, oX_Tape, xg7_0, xg7_1, xp7_1, xg7_2, xp7_2, xg7_3, xp7_3, xa2, xt2_, xl2, xa3, xt3_, xl3, xa4, xt4_, xl4, xa5, xt5_, xl5, xa6, xt6_, xl6, xa7, xl7, xa9, xl9, xa10, xt10_, xl10, xa72, xt72_, xl72, xa74, xt74_, xl74, xa75, xt75_, xl75, xa76, xt76_, xl76, xa77, xt77_, xl77, xa78, xt78_, xl78, xa84, xt84_, xl84, xa85, xt85_, xl85, xa86, xt86_, xl86, xa92, xt92_, xl92, xa93, xt93_, xl93, xa95, xt95_, xl95, xa96, xt96_, xl96, xa147, xt147_, xl147, xa148, xt148_, xl148, xa149, xt149_, xl149, oX_Values, xg8_0, xg8_1, xp8_1, xg8_2, xq8_2, xg8_3, xp8_3, xg8_4, xp8_4, xg8_5, xp8_5, xg8_6, xp8_6, xg8_7, xq8_7, xaV1, xtV1_, xlV1, zb0, lT2, lT3, lT8, lT9, lT99, lT9999, lTc0, lTc1, lTm1, lTm9, lTm99, lTm9999, oI0, oI1, oI10, oI100, oI11, oI12, oI122, oI13, oI14, oI15, oI16, oI18, oI192, oI2, oI20, oI22, oI23, oI24, oI25, oI255, oI26, oI3, oI30, oI31, oI32, oI39, oI3951, oI4, oI40, oI400, oI4000, oI439, oI4390, oI45, oI48, oI5, oI50, oI57, oI576, oI6, oI600, oI64, oI7, oI72, oI8, oI878, oI9, oI96, oI97, oI99, oI999, oI9999, oIm1, oIm2, oIm4, oIm5, oIm6, oIm9, oIm99, zb0, zb1, zb2, zb3, bI_ne, bI_eq, iz_n, rem_n, div_n, af_d, kp_d, fin3, isr_r, isr_n, isr_a, Value.ref.injEq, Sum.inr.injEq, Prod.mk.injEq, nI_m, nI_a, xinb_n, clamp_n, xc_lt, xc_le, xc_gt, xc_ge, xc_eq, xc_ne, xz_eq, xz_ne, xz_lt, xz_ge, xz_gt, xz_le, pk_sub, Nat.reduceSub, decide_true, decide_false, eq_self, Nat.add_sub_cancel, dt_lt, df_lt, dt_le, df_le, dt_eq, df_eq, iff_self, Bool.not_true, Bool.not_false, Bool.and_true, Bool.true_and, Bool.and_false, Bool.false_and, false_and, and_false, xrf_n, xrf_s, sa_0r, sa_1r, vA_eq, vA_ne, vA_2, vL_1, vL_eq, vL_ne, vL_22, vP_1, vP_21, vP_eq, vP_ne, uA_uA, uL_uL, uP_uP, uA_sx, uL_sx, uP_sx, id_eq, uA_uL, uA_uP, uL_uP, xupd_e2, xupd_ne, xupd_xupd]
  refine lq_g (k := (0, 0)) (S := Nat) (fun q => q ≤ D ∧ lxR A B (D - q) q = lxR A B D 0) (fun q => D - q) (fun q => [.ref v, .ref o, .ref 73, .int (nI q)]) (fun _ => mkX h c τ) 0 rfl rfl ⟨Nat.zero_le _, rfl⟩ ?_
  intro q P hq hP
  obtain ⟨q1, q2⟩ := hq
  by_cases cq : q < D
  · obtain ⟨a1, a2⟩ := hA q cq
    obtain ⟨b1, b2⟩ := hB q cq
    rw [show D - q = (D - (q + 1)) + 1 by omega, lxR] at q2
    by_cases ce : A q = B q
    · rw [if_pos ce] at q2
      have go := hP (q + 1) ⟨cq, q2⟩ (by omega)
      clear hP hA hB q2 K
      simp (disch := first | assumption | omega | decide | rfl | (simp (disch := omega) only [vA_eq, vA_ne, vA_2, vL_1, vL_eq, vL_ne, vL_22, vP_1, vP_21, vP_eq, vP_ne, xupd_ne, xupd_e2, not_false_eq_true, implies_true, *])) only [zPIc, zPBi, zPSi, zPLdc, zPLdcw, zPLd2, zPLc, zPNull, zPIn, zPI, zPLn, zPL, zPAn, zPA, zPStr, zPCs, zPU, zPB, zPBv, zPTn, zCIf, zCCm, zCNl, zCNot, zCAnd, zCOr, zOAdd, zOSub, zOMul, zOAnd, zOOr, zOXor, zOShl, zOShr, zOUshr, zODiv, zORem, zOAddL, zOSubL, zOMulL, zOAndL, zOXorL, zORemL, zOShlL, zOShrL, zOCmpL, zOIald, zOLald, zOZald, zOAald, zOI2l, zOL2i, zONeg, zONegL, zOGet, zOAlen, zOScrL, zOScr, zOSv, zOScd, zOBln, zOBld, zOI2c, zLIn, zLI, zLLn, zLL, zLAn, zLA, zQPut, zTI, zTL, zTZ, zTA, ↓yEP, ↓yEU, ↓yEB, ↓yDC, ↓yDIf, ↓yDCm, ↓zDNot, ↓zDAnd, ↓zDOr, ↓zEBv, ↓zETn, ↓zAN, ↓zAC, ↓yKV, ↓yKS, ↓yKX, ↓yKAc, ↓yEK, ↓yENew, ↓yENa, ↓zSNop, ↓zSSeq, ↓zSBrk, ↓zSCnt, ↓zSSB, ↓zSSC, ↓zSSc, ↓zSIf, ↓zSIfE, ↓zSIfR, ↓zSIfB, ↓zSIfC, ↓zSDead, ↓ySSt, ↓ySInc, ↓ySPut, ↓ySPutC, ↓ySAst, ↓ySAstC, ↓ySK, ↓ySKp, ↓zSRv, ↓ySR, ↓ySLp, ↓ySWh, ↓ySSw, ob_s, ob_n, gd_t, gd_f, okx_r, xai_i, li0, lis, ll0, lls, la0, la0n, la0r, las, xs1_0, xs1_1, xs1_s, xs2_0, xs2_1, xs2_s, xisl_i, xisl_r, xisl_n, xisl_a, xisl_j, xisl_l, si_0, si_1, si_s, sl_0, sl_1, sl_s, sa_0, sa_1, sa_s, inc_, ii_, iz_, ll_, lz_, lsh_, lc_, i2l_, l2i_, neg_, negl_, if_, cm_, nl_r, nl_n, rI_i, rI_l, rI_r, rI_n, rI_a, rv_v, rv_i, rv_l, rv_b, rv_b1, rv_b0, rv_r, rv_n, rv_a, cat_i, cat_l, cat_r, cat_n, cat_b, rI_b, if_b, bi_, si2_, Option.bind_some, Option.bind_none, Option.map_some, Option.some.injEq, exists_eq_left, exists_eq_left', List.getElem?_cons_zero, List.getElem?_cons_succ, List.length_cons, List.length_nil, ↓reduceIte, true_and, and_true, Fin.isValue, Fin.val_zero, Fin.val_one, Fin.val_two, Fin.reduceFinMk, reduceCtorEq, exists_const, Bool.false_eq_true, Nat.reduceAdd, Nat.zero_add, Nat.reduceMul, Nat.reduceLeDiff, Nat.le_refl, exists_and_left, List.set_cons_zero, List.set_cons_succ, oX_CornerCuts, xg10_0, xg10_1, xg10_2, xg10_3, xg10_4, xg10_5, xg10_6, xg10_7, xg10_8, xg10_9, xg10_10, xg10_11, xg10_12, xp10_12, xg10_13, xp10_13, xg10_14, xq10_14, xg10_15, xq10_15, xg10_16, xq10_16, oX_History, xg2_0, xg2_1, xg2_2, xp2_2, xg2_3, xp2_3, oX_Group, xg1_0, xp1_0, xg1_1, xp1_1, xg1_2, xp1_2, xg1_3, xg1_4, xg1_5, xg1_6, xg1_7, oX_Walks, xg9_0, xg9_1, xg9_2, xg9_3, xg9_4, xq9_4, xg9_5, xq9_5, xg9_6, xp9_6, oX_Judge, xg3_0, xg3_1, xg3_2, xp3_2, oX_Table, xg6_0, xp6_0, xg6_1, xg6_2, xp6_2, xg6_3, oX_Tape, xg7_0, xg7_1, xp7_1, xg7_2, xp7_2, xg7_3, xp7_3, xa2, xt2_, xl2, xa3, xt3_, xl3, xa4, xt4_, xl4, xa5, xt5_, xl5, xa6, xt6_, xl6, xa7, xl7, xa9, xl9, xa10, xt10_, xl10, xa72, xt72_, xl72, xa74, xt74_, xl74, xa75, xt75_, xl75, xa76, xt76_, xl76, xa77, xt77_, xl77, xa78, xt78_, xl78, xa84, xt84_, xl84, xa85, xt85_, xl85, xa86, xt86_, xl86, xa92, xt92_, xl92, xa93, xt93_, xl93, xa95, xt95_, xl95, xa96, xt96_, xl96, xa147, xt147_, xl147, xa148, xt148_, xl148, xa149, xt149_, xl149, oX_Values, xg8_0, xg8_1, xp8_1, xg8_2, xq8_2, xg8_3, xp8_3, xg8_4, xp8_4, xg8_5, xp8_5, xg8_6, xp8_6, xg8_7, xq8_7, xaV1, xtV1_, xlV1, zb0, lT2, lT3, lT8, lT9, lT99, lT9999, lTc0, lTc1, lTm1, lTm9, lTm99, lTm9999, oI0, oI1, oI10, oI100, oI11, oI12, oI122, oI13, oI14, oI15, oI16, oI18, oI192, oI2, oI20, oI22, oI23, oI24, oI25, oI255, oI26, oI3, oI30, oI31, oI32, oI39, oI3951, oI4, oI40, oI400, oI4000, oI439, oI4390, oI45, oI48, oI5, oI50, oI57, oI576, oI6, oI600, oI64, oI7, oI72, oI8, oI878, oI9, oI96, oI97, oI99, oI999, oI9999, oIm1, oIm2, oIm4, oIm5, oIm6, oIm9, oIm99, zb0, zb1, zb2, zb3, bI_ne, bI_eq, iz_n, rem_n, div_n, af_d, kp_d, fin3, isr_r, isr_n, isr_a, Value.ref.injEq, Sum.inr.injEq, Prod.mk.injEq, nI_m, nI_a, xinb_n, clamp_n, xc_lt, xc_le, xc_gt, xc_ge, xc_eq, xc_ne, xz_eq, xz_ne, xz_lt, xz_ge, xz_gt, xz_le, pk_sub, Nat.reduceSub, decide_true, decide_false, eq_self, Nat.add_sub_cancel, dt_lt, df_lt, dt_le, df_le, dt_eq, df_eq, iff_self, Bool.not_true, Bool.not_false, Bool.and_true, Bool.true_and, Bool.and_false, Bool.false_and, false_and, and_false, xrf_n, xrf_s, sa_0r, sa_1r, vA_eq, vA_ne, vA_2, vL_1, vL_eq, vL_ne, vL_22, vP_1, vP_21, vP_eq, vP_ne, uA_uA, uL_uL, uP_uP, uA_sx, uL_sx, uP_sx, id_eq, uA_uL, uA_uP, uL_uP, xupd_e2, xupd_ne, xupd_xupd, g0, cq, a1, b1, ce]
      exact go
    · rw [if_neg ce] at q2
      by_cases cl : A q < B q
      · rw [if_pos cl] at q2
        rw [← q2] at K
        clear hP hA hB q2
        simp (disch := first | assumption | omega | decide | rfl | (simp (disch := omega) only [vA_eq, vA_ne, vA_2, vL_1, vL_eq, vL_ne, vL_22, vP_1, vP_21, vP_eq, vP_ne, xupd_ne, xupd_e2, not_false_eq_true, implies_true, *])) only [zPIc, zPBi, zPSi, zPLdc, zPLdcw, zPLd2, zPLc, zPNull, zPIn, zPI, zPLn, zPL, zPAn, zPA, zPStr, zPCs, zPU, zPB, zPBv, zPTn, zCIf, zCCm, zCNl, zCNot, zCAnd, zCOr, zOAdd, zOSub, zOMul, zOAnd, zOOr, zOXor, zOShl, zOShr, zOUshr, zODiv, zORem, zOAddL, zOSubL, zOMulL, zOAndL, zOXorL, zORemL, zOShlL, zOShrL, zOCmpL, zOIald, zOLald, zOZald, zOAald, zOI2l, zOL2i, zONeg, zONegL, zOGet, zOAlen, zOScrL, zOScr, zOSv, zOScd, zOBln, zOBld, zOI2c, zLIn, zLI, zLLn, zLL, zLAn, zLA, zQPut, zTI, zTL, zTZ, zTA, ↓yEP, ↓yEU, ↓yEB, ↓yDC, ↓yDIf, ↓yDCm, ↓zDNot, ↓zDAnd, ↓zDOr, ↓zEBv, ↓zETn, ↓zAN, ↓zAC, ↓yKV, ↓yKS, ↓yKX, ↓yKAc, ↓yEK, ↓yENew, ↓yENa, ↓zSNop, ↓zSSeq, ↓zSBrk, ↓zSCnt, ↓zSSB, ↓zSSC, ↓zSSc, ↓zSIf, ↓zSIfE, ↓zSIfR, ↓zSIfB, ↓zSIfC, ↓zSDead, ↓ySSt, ↓ySInc, ↓ySPut, ↓ySPutC, ↓ySAst, ↓ySAstC, ↓ySK, ↓ySKp, ↓zSRv, ↓ySR, ↓ySLp, ↓ySWh, ↓ySSw, ob_s, ob_n, gd_t, gd_f, okx_r, xai_i, li0, lis, ll0, lls, la0, la0n, la0r, las, xs1_0, xs1_1, xs1_s, xs2_0, xs2_1, xs2_s, xisl_i, xisl_r, xisl_n, xisl_a, xisl_j, xisl_l, si_0, si_1, si_s, sl_0, sl_1, sl_s, sa_0, sa_1, sa_s, inc_, ii_, iz_, ll_, lz_, lsh_, lc_, i2l_, l2i_, neg_, negl_, if_, cm_, nl_r, nl_n, rI_i, rI_l, rI_r, rI_n, rI_a, rv_v, rv_i, rv_l, rv_b, rv_b1, rv_b0, rv_r, rv_n, rv_a, cat_i, cat_l, cat_r, cat_n, cat_b, rI_b, if_b, bi_, si2_, Option.bind_some, Option.bind_none, Option.map_some, Option.some.injEq, exists_eq_left, exists_eq_left', List.getElem?_cons_zero, List.getElem?_cons_succ, List.length_cons, List.length_nil, ↓reduceIte, true_and, and_true, Fin.isValue, Fin.val_zero, Fin.val_one, Fin.val_two, Fin.reduceFinMk, reduceCtorEq, exists_const, Bool.false_eq_true, Nat.reduceAdd, Nat.zero_add, Nat.reduceMul, Nat.reduceLeDiff, Nat.le_refl, exists_and_left, List.set_cons_zero, List.set_cons_succ, oX_CornerCuts, xg10_0, xg10_1, xg10_2, xg10_3, xg10_4, xg10_5, xg10_6, xg10_7, xg10_8, xg10_9, xg10_10, xg10_11, xg10_12, xp10_12, xg10_13, xp10_13, xg10_14, xq10_14, xg10_15, xq10_15, xg10_16, xq10_16, oX_History, xg2_0, xg2_1, xg2_2, xp2_2, xg2_3, xp2_3, oX_Group, xg1_0, xp1_0, xg1_1, xp1_1, xg1_2, xp1_2, xg1_3, xg1_4, xg1_5, xg1_6, xg1_7, oX_Walks, xg9_0, xg9_1, xg9_2, xg9_3, xg9_4, xq9_4, xg9_5, xq9_5, xg9_6, xp9_6, oX_Judge, xg3_0, xg3_1, xg3_2, xp3_2, oX_Table, xg6_0, xp6_0, xg6_1, xg6_2, xp6_2, xg6_3, oX_Tape, xg7_0, xg7_1, xp7_1, xg7_2, xp7_2, xg7_3, xp7_3, xa2, xt2_, xl2, xa3, xt3_, xl3, xa4, xt4_, xl4, xa5, xt5_, xl5, xa6, xt6_, xl6, xa7, xl7, xa9, xl9, xa10, xt10_, xl10, xa72, xt72_, xl72, xa74, xt74_, xl74, xa75, xt75_, xl75, xa76, xt76_, xl76, xa77, xt77_, xl77, xa78, xt78_, xl78, xa84, xt84_, xl84, xa85, xt85_, xl85, xa86, xt86_, xl86, xa92, xt92_, xl92, xa93, xt93_, xl93, xa95, xt95_, xl95, xa96, xt96_, xl96, xa147, xt147_, xl147, xa148, xt148_, xl148, xa149, xt149_, xl149, oX_Values, xg8_0, xg8_1, xp8_1, xg8_2, xq8_2, xg8_3, xp8_3, xg8_4, xp8_4, xg8_5, xp8_5, xg8_6, xp8_6, xg8_7, xq8_7, xaV1, xtV1_, xlV1, zb0, lT2, lT3, lT8, lT9, lT99, lT9999, lTc0, lTc1, lTm1, lTm9, lTm99, lTm9999, oI0, oI1, oI10, oI100, oI11, oI12, oI122, oI13, oI14, oI15, oI16, oI18, oI192, oI2, oI20, oI22, oI23, oI24, oI25, oI255, oI26, oI3, oI30, oI31, oI32, oI39, oI3951, oI4, oI40, oI400, oI4000, oI439, oI4390, oI45, oI48, oI5, oI50, oI57, oI576, oI6, oI600, oI64, oI7, oI72, oI8, oI878, oI9, oI96, oI97, oI99, oI999, oI9999, oIm1, oIm2, oIm4, oIm5, oIm6, oIm9, oIm99, zb0, zb1, zb2, zb3, bI_ne, bI_eq, iz_n, rem_n, div_n, af_d, kp_d, fin3, isr_r, isr_n, isr_a, Value.ref.injEq, Sum.inr.injEq, Prod.mk.injEq, nI_m, nI_a, xinb_n, clamp_n, xc_lt, xc_le, xc_gt, xc_ge, xc_eq, xc_ne, xz_eq, xz_ne, xz_lt, xz_ge, xz_gt, xz_le, pk_sub, Nat.reduceSub, decide_true, decide_false, eq_self, Nat.add_sub_cancel, dt_lt, df_lt, dt_le, df_le, dt_eq, df_eq, iff_self, Bool.not_true, Bool.not_false, Bool.and_true, Bool.true_and, Bool.and_false, Bool.false_and, false_and, and_false, xrf_n, xrf_s, sa_0r, sa_1r, vA_eq, vA_ne, vA_2, vL_1, vL_eq, vL_ne, vL_22, vP_1, vP_21, vP_eq, vP_ne, uA_uA, uL_uL, uP_uP, uA_sx, uL_sx, uP_sx, id_eq, uA_uL, uA_uP, uL_uP, xupd_e2, xupd_ne, xupd_xupd, g0, cq, a1, b1, ce, cl]
        exact K
      · rw [if_neg cl] at q2
        rw [← q2] at K
        clear hP hA hB q2
        simp (disch := first | assumption | omega | decide | rfl | (simp (disch := omega) only [vA_eq, vA_ne, vA_2, vL_1, vL_eq, vL_ne, vL_22, vP_1, vP_21, vP_eq, vP_ne, xupd_ne, xupd_e2, not_false_eq_true, implies_true, *])) only [zPIc, zPBi, zPSi, zPLdc, zPLdcw, zPLd2, zPLc, zPNull, zPIn, zPI, zPLn, zPL, zPAn, zPA, zPStr, zPCs, zPU, zPB, zPBv, zPTn, zCIf, zCCm, zCNl, zCNot, zCAnd, zCOr, zOAdd, zOSub, zOMul, zOAnd, zOOr, zOXor, zOShl, zOShr, zOUshr, zODiv, zORem, zOAddL, zOSubL, zOMulL, zOAndL, zOXorL, zORemL, zOShlL, zOShrL, zOCmpL, zOIald, zOLald, zOZald, zOAald, zOI2l, zOL2i, zONeg, zONegL, zOGet, zOAlen, zOScrL, zOScr, zOSv, zOScd, zOBln, zOBld, zOI2c, zLIn, zLI, zLLn, zLL, zLAn, zLA, zQPut, zTI, zTL, zTZ, zTA, ↓yEP, ↓yEU, ↓yEB, ↓yDC, ↓yDIf, ↓yDCm, ↓zDNot, ↓zDAnd, ↓zDOr, ↓zEBv, ↓zETn, ↓zAN, ↓zAC, ↓yKV, ↓yKS, ↓yKX, ↓yKAc, ↓yEK, ↓yENew, ↓yENa, ↓zSNop, ↓zSSeq, ↓zSBrk, ↓zSCnt, ↓zSSB, ↓zSSC, ↓zSSc, ↓zSIf, ↓zSIfE, ↓zSIfR, ↓zSIfB, ↓zSIfC, ↓zSDead, ↓ySSt, ↓ySInc, ↓ySPut, ↓ySPutC, ↓ySAst, ↓ySAstC, ↓ySK, ↓ySKp, ↓zSRv, ↓ySR, ↓ySLp, ↓ySWh, ↓ySSw, ob_s, ob_n, gd_t, gd_f, okx_r, xai_i, li0, lis, ll0, lls, la0, la0n, la0r, las, xs1_0, xs1_1, xs1_s, xs2_0, xs2_1, xs2_s, xisl_i, xisl_r, xisl_n, xisl_a, xisl_j, xisl_l, si_0, si_1, si_s, sl_0, sl_1, sl_s, sa_0, sa_1, sa_s, inc_, ii_, iz_, ll_, lz_, lsh_, lc_, i2l_, l2i_, neg_, negl_, if_, cm_, nl_r, nl_n, rI_i, rI_l, rI_r, rI_n, rI_a, rv_v, rv_i, rv_l, rv_b, rv_b1, rv_b0, rv_r, rv_n, rv_a, cat_i, cat_l, cat_r, cat_n, cat_b, rI_b, if_b, bi_, si2_, Option.bind_some, Option.bind_none, Option.map_some, Option.some.injEq, exists_eq_left, exists_eq_left', List.getElem?_cons_zero, List.getElem?_cons_succ, List.length_cons, List.length_nil, ↓reduceIte, true_and, and_true, Fin.isValue, Fin.val_zero, Fin.val_one, Fin.val_two, Fin.reduceFinMk, reduceCtorEq, exists_const, Bool.false_eq_true, Nat.reduceAdd, Nat.zero_add, Nat.reduceMul, Nat.reduceLeDiff, Nat.le_refl, exists_and_left, List.set_cons_zero, List.set_cons_succ, oX_CornerCuts, xg10_0, xg10_1, xg10_2, xg10_3, xg10_4, xg10_5, xg10_6, xg10_7, xg10_8, xg10_9, xg10_10, xg10_11, xg10_12, xp10_12, xg10_13, xp10_13, xg10_14, xq10_14, xg10_15, xq10_15, xg10_16, xq10_16, oX_History, xg2_0, xg2_1, xg2_2, xp2_2, xg2_3, xp2_3, oX_Group, xg1_0, xp1_0, xg1_1, xp1_1, xg1_2, xp1_2, xg1_3, xg1_4, xg1_5, xg1_6, xg1_7, oX_Walks, xg9_0, xg9_1, xg9_2, xg9_3, xg9_4, xq9_4, xg9_5, xq9_5, xg9_6, xp9_6, oX_Judge, xg3_0, xg3_1, xg3_2, xp3_2, oX_Table, xg6_0, xp6_0, xg6_1, xg6_2, xp6_2, xg6_3, oX_Tape, xg7_0, xg7_1, xp7_1, xg7_2, xp7_2, xg7_3, xp7_3, xa2, xt2_, xl2, xa3, xt3_, xl3, xa4, xt4_, xl4, xa5, xt5_, xl5, xa6, xt6_, xl6, xa7, xl7, xa9, xl9, xa10, xt10_, xl10, xa72, xt72_, xl72, xa74, xt74_, xl74, xa75, xt75_, xl75, xa76, xt76_, xl76, xa77, xt77_, xl77, xa78, xt78_, xl78, xa84, xt84_, xl84, xa85, xt85_, xl85, xa86, xt86_, xl86, xa92, xt92_, xl92, xa93, xt93_, xl93, xa95, xt95_, xl95, xa96, xt96_, xl96, xa147, xt147_, xl147, xa148, xt148_, xl148, xa149, xt149_, xl149, oX_Values, xg8_0, xg8_1, xp8_1, xg8_2, xq8_2, xg8_3, xp8_3, xg8_4, xp8_4, xg8_5, xp8_5, xg8_6, xp8_6, xg8_7, xq8_7, xaV1, xtV1_, xlV1, zb0, lT2, lT3, lT8, lT9, lT99, lT9999, lTc0, lTc1, lTm1, lTm9, lTm99, lTm9999, oI0, oI1, oI10, oI100, oI11, oI12, oI122, oI13, oI14, oI15, oI16, oI18, oI192, oI2, oI20, oI22, oI23, oI24, oI25, oI255, oI26, oI3, oI30, oI31, oI32, oI39, oI3951, oI4, oI40, oI400, oI4000, oI439, oI4390, oI45, oI48, oI5, oI50, oI57, oI576, oI6, oI600, oI64, oI7, oI72, oI8, oI878, oI9, oI96, oI97, oI99, oI999, oI9999, oIm1, oIm2, oIm4, oIm5, oIm6, oIm9, oIm99, zb0, zb1, zb2, zb3, bI_ne, bI_eq, iz_n, rem_n, div_n, af_d, kp_d, fin3, isr_r, isr_n, isr_a, Value.ref.injEq, Sum.inr.injEq, Prod.mk.injEq, nI_m, nI_a, xinb_n, clamp_n, xc_lt, xc_le, xc_gt, xc_ge, xc_eq, xc_ne, xz_eq, xz_ne, xz_lt, xz_ge, xz_gt, xz_le, pk_sub, Nat.reduceSub, decide_true, decide_false, eq_self, Nat.add_sub_cancel, dt_lt, df_lt, dt_le, df_le, dt_eq, df_eq, iff_self, Bool.not_true, Bool.not_false, Bool.and_true, Bool.true_and, Bool.and_false, Bool.false_and, false_and, and_false, xrf_n, xrf_s, sa_0r, sa_1r, vA_eq, vA_ne, vA_2, vL_1, vL_eq, vL_ne, vL_22, vP_1, vP_21, vP_eq, vP_ne, uA_uA, uL_uL, uP_uP, uA_sx, uL_sx, uP_sx, id_eq, uA_uL, uA_uP, uL_uP, xupd_e2, xupd_ne, xupd_xupd, g0, cq, a1, b1, ce, cl]
        exact K
  · have e : q = D := by omega
    subst e
    rw [Nat.sub_self, lxR] at q2
    rw [← q2] at K
    clear hP hA hB q2
    simp (disch := first | assumption | omega | decide | rfl | (simp (disch := omega) only [vA_eq, vA_ne, vA_2, vL_1, vL_eq, vL_ne, vL_22, vP_1, vP_21, vP_eq, vP_ne, xupd_ne, xupd_e2, not_false_eq_true, implies_true, *])) only [zPIc, zPBi, zPSi, zPLdc, zPLdcw, zPLd2, zPLc, zPNull, zPIn, zPI, zPLn, zPL, zPAn, zPA, zPStr, zPCs, zPU, zPB, zPBv, zPTn, zCIf, zCCm, zCNl, zCNot, zCAnd, zCOr, zOAdd, zOSub, zOMul, zOAnd, zOOr, zOXor, zOShl, zOShr, zOUshr, zODiv, zORem, zOAddL, zOSubL, zOMulL, zOAndL, zOXorL, zORemL, zOShlL, zOShrL, zOCmpL, zOIald, zOLald, zOZald, zOAald, zOI2l, zOL2i, zONeg, zONegL, zOGet, zOAlen, zOScrL, zOScr, zOSv, zOScd, zOBln, zOBld, zOI2c, zLIn, zLI, zLLn, zLL, zLAn, zLA, zQPut, zTI, zTL, zTZ, zTA, ↓yEP, ↓yEU, ↓yEB, ↓yDC, ↓yDIf, ↓yDCm, ↓zDNot, ↓zDAnd, ↓zDOr, ↓zEBv, ↓zETn, ↓zAN, ↓zAC, ↓yKV, ↓yKS, ↓yKX, ↓yKAc, ↓yEK, ↓yENew, ↓yENa, ↓zSNop, ↓zSSeq, ↓zSBrk, ↓zSCnt, ↓zSSB, ↓zSSC, ↓zSSc, ↓zSIf, ↓zSIfE, ↓zSIfR, ↓zSIfB, ↓zSIfC, ↓zSDead, ↓ySSt, ↓ySInc, ↓ySPut, ↓ySPutC, ↓ySAst, ↓ySAstC, ↓ySK, ↓ySKp, ↓zSRv, ↓ySR, ↓ySLp, ↓ySWh, ↓ySSw, ob_s, ob_n, gd_t, gd_f, okx_r, xai_i, li0, lis, ll0, lls, la0, la0n, la0r, las, xs1_0, xs1_1, xs1_s, xs2_0, xs2_1, xs2_s, xisl_i, xisl_r, xisl_n, xisl_a, xisl_j, xisl_l, si_0, si_1, si_s, sl_0, sl_1, sl_s, sa_0, sa_1, sa_s, inc_, ii_, iz_, ll_, lz_, lsh_, lc_, i2l_, l2i_, neg_, negl_, if_, cm_, nl_r, nl_n, rI_i, rI_l, rI_r, rI_n, rI_a, rv_v, rv_i, rv_l, rv_b, rv_b1, rv_b0, rv_r, rv_n, rv_a, cat_i, cat_l, cat_r, cat_n, cat_b, rI_b, if_b, bi_, si2_, Option.bind_some, Option.bind_none, Option.map_some, Option.some.injEq, exists_eq_left, exists_eq_left', List.getElem?_cons_zero, List.getElem?_cons_succ, List.length_cons, List.length_nil, ↓reduceIte, true_and, and_true, Fin.isValue, Fin.val_zero, Fin.val_one, Fin.val_two, Fin.reduceFinMk, reduceCtorEq, exists_const, Bool.false_eq_true, Nat.reduceAdd, Nat.zero_add, Nat.reduceMul, Nat.reduceLeDiff, Nat.le_refl, exists_and_left, List.set_cons_zero, List.set_cons_succ, oX_CornerCuts, xg10_0, xg10_1, xg10_2, xg10_3, xg10_4, xg10_5, xg10_6, xg10_7, xg10_8, xg10_9, xg10_10, xg10_11, xg10_12, xp10_12, xg10_13, xp10_13, xg10_14, xq10_14, xg10_15, xq10_15, xg10_16, xq10_16, oX_History, xg2_0, xg2_1, xg2_2, xp2_2, xg2_3, xp2_3, oX_Group, xg1_0, xp1_0, xg1_1, xp1_1, xg1_2, xp1_2, xg1_3, xg1_4, xg1_5, xg1_6, xg1_7, oX_Walks, xg9_0, xg9_1, xg9_2, xg9_3, xg9_4, xq9_4, xg9_5, xq9_5, xg9_6, xp9_6, oX_Judge, xg3_0, xg3_1, xg3_2, xp3_2, oX_Table, xg6_0, xp6_0, xg6_1, xg6_2, xp6_2, xg6_3, oX_Tape, xg7_0, xg7_1, xp7_1, xg7_2, xp7_2, xg7_3, xp7_3, xa2, xt2_, xl2, xa3, xt3_, xl3, xa4, xt4_, xl4, xa5, xt5_, xl5, xa6, xt6_, xl6, xa7, xl7, xa9, xl9, xa10, xt10_, xl10, xa72, xt72_, xl72, xa74, xt74_, xl74, xa75, xt75_, xl75, xa76, xt76_, xl76, xa77, xt77_, xl77, xa78, xt78_, xl78, xa84, xt84_, xl84, xa85, xt85_, xl85, xa86, xt86_, xl86, xa92, xt92_, xl92, xa93, xt93_, xl93, xa95, xt95_, xl95, xa96, xt96_, xl96, xa147, xt147_, xl147, xa148, xt148_, xl148, xa149, xt149_, xl149, oX_Values, xg8_0, xg8_1, xp8_1, xg8_2, xq8_2, xg8_3, xp8_3, xg8_4, xp8_4, xg8_5, xp8_5, xg8_6, xp8_6, xg8_7, xq8_7, xaV1, xtV1_, xlV1, zb0, lT2, lT3, lT8, lT9, lT99, lT9999, lTc0, lTc1, lTm1, lTm9, lTm99, lTm9999, oI0, oI1, oI10, oI100, oI11, oI12, oI122, oI13, oI14, oI15, oI16, oI18, oI192, oI2, oI20, oI22, oI23, oI24, oI25, oI255, oI26, oI3, oI30, oI31, oI32, oI39, oI3951, oI4, oI40, oI400, oI4000, oI439, oI4390, oI45, oI48, oI5, oI50, oI57, oI576, oI6, oI600, oI64, oI7, oI72, oI8, oI878, oI9, oI96, oI97, oI99, oI999, oI9999, oIm1, oIm2, oIm4, oIm5, oIm6, oIm9, oIm99, zb0, zb1, zb2, zb3, bI_ne, bI_eq, iz_n, rem_n, div_n, af_d, kp_d, fin3, isr_r, isr_n, isr_a, Value.ref.injEq, Sum.inr.injEq, Prod.mk.injEq, nI_m, nI_a, xinb_n, clamp_n, xc_lt, xc_le, xc_gt, xc_ge, xc_eq, xc_ne, xz_eq, xz_ne, xz_lt, xz_ge, xz_gt, xz_le, pk_sub, Nat.reduceSub, decide_true, decide_false, eq_self, Nat.add_sub_cancel, dt_lt, df_lt, dt_le, df_le, dt_eq, df_eq, iff_self, Bool.not_true, Bool.not_false, Bool.and_true, Bool.true_and, Bool.and_false, Bool.false_and, false_and, and_false, xrf_n, xrf_s, sa_0r, sa_1r, vA_eq, vA_ne, vA_2, vL_1, vL_eq, vL_ne, vL_22, vP_1, vP_21, vP_eq, vP_ne, uA_uA, uL_uL, uP_uP, uA_sx, uL_sx, uP_sx, id_eq, uA_uL, uA_uP, uL_uP, xupd_e2, xupd_ne, xupd_xupd, g0]
    exact K
