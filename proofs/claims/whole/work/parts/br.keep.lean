/-! what stood is kept, and stands alike on both sides -/
theorem MdR_cp {G : Nat → Nat → Int32} {c : XC} {τ τ' : XS} {a b m nc nk : Nat} {r : Nat → Int32} (hr : RW r m nc nk) (hc : cpM τ τ' a b) (h2 : ∀ q, 192 ≤ q → τ'.1 q = τ.1 q) (hm : MdR G c τ b r m nc nk) : MdR G c τ' a r m nc nk := by
  have h6 := hr.1.2.2.2.1
  have h8 := hr.2.2.1.2
  obtain ⟨⟨c0, c1, c2⟩, c3, c4, c5, c6, c7⟩ := hc
  obtain ⟨⟨m0, m1, m2⟩, m3, m4, m5, m6, m7⟩ := hm
  refine ⟨⟨c0.trans m0, c1.trans m1, c2.trans m2⟩, fun k hk => (c3 k hk).trans (m3 k hk), fun k hk => (c4 k hk).trans (m4 k hk), fun k i hk hi => (c5 _ (by omega)).trans (m5 k i hk hi), fun k hk => (c6 k (by omega)).trans (m6 k hk), fun k hk => ?_⟩
  obtain ⟨q, q1, q2, q3, q4⟩ := m7 k hk
  exact ⟨q, (c7 k (by omega)).trans q1, q2, CtR_eq h2 q2 q3, q4⟩
def kpF (τ τ' : XS) (x n : Nat) (s : Int32) : Prop := (∀ a, a ≠ 8 → a ≠ 10 → (a < 11 + 6 * x ∨ 11 + 6 * x + 6 ≤ a) → τ'.1 a = τ.1 a ∧ τ'.2.1 a = τ.2.1 a ∧ τ'.2.2 a = τ.2.2 a) ∧ cpM τ τ' (11 + 6 * x) 1 ∧ (τ'.1 8 2 = nI ((x + 1) % 10) ∧ τ'.1 8 3 = nI (min (n + 1) 10) ∧ τ'.2.2 8 = τ.2.2 8) ∧ (τ'.1 10 = xupd (τ.1 10) x s ∧ τ'.2.2 10 = τ.2.2 10)
theorem x_keep {n x : Nat} {s : Int32} {h : AH} {c : XC} {τ : XS} {Q : Option Value → AH → Prop} (hp : PtR c τ) (h3 : τ.1 8 3 = nI n) (hn : n ≤ 10) (h2 : τ.1 8 2 = nI x) (hx : x < 10) (K : ∀ τ', kpF τ τ' x n s → Q none (mkX h c τ')) : m_X2_keep.1 [.ref 8, .ref 1, .int s] (mkX h c τ) Q := by
  have p9 := hp.1 x hx
  have hM := isM_h hx
  have CF := fun Q' K' => x_copyFrom (h := h) (Q := Q') (isM_h hx) (show isM 1 = true from rfl) (by omega) (fun i q hi e => hp.2.2 1 i q rfl hi e) K'
  have mn : minI (nI (n + 1)) (nI 10) = nI (min (n + 1) 10) := minN (by omega) (by omega)
  clear hp
  refine (xM_iff (g := g_X2_keep) (b := b_X2_keep) [.ref 8, .ref 1, .int s] (Nat.le_of_ble_eq_true rfl) rfl).mpr ?_
  simp (disch := first | assumption | omega | decide | rfl | (simp (disch := omega) only [vA_eq, vA_ne, vA_2, vL_1, vL_eq, vL_ne, vL_22, vP_1, vP_21, vP_eq, vP_ne, xupd_ne, xupd_e2, not_false_eq_true, implies_true, *])) only [b_X2_keep, g_X2_keep, zPIc, zPBi, zPSi, zPLdc, zPLdcw, zPLd2, zPLc, zPNull, zPIn, zPI, zPLn, zPL, zPAn, zPA, zPStr, zPCs, zPU, zPB, zPBv, zPTn, zCIf, zCCm, zCNl, zCNot, zCAnd, zCOr, zOAdd, zOSub, zOMul, zOAnd, zOOr, zOXor, zOShl, zOShr, zOUshr, zODiv, zORem, zOAddL, zOSubL, zOMulL, zOAndL, zOXorL, zORemL, zOShlL, zOShrL, zOCmpL, zOIald, zOLald, zOZald, zOAald, zOI2l, zOL2i, zONeg, zONegL, zOGet, zOAlen, zOScrL, zOScr, zOSv, zOScd, zOBln, zOBld, zOI2c, zLIn, zLI, zLLn, zLL, zLAn, zLA, zQPut, zTI, zTL, zTZ, zTA, ↓yEP, ↓yEU, ↓yEB, ↓yDC, ↓yDIf, ↓yDCm, ↓zDNot, ↓zDAnd, ↓zDOr, ↓zEBv, ↓zETn, ↓zAN, ↓zAC, ↓yKV, ↓yKS, ↓yKX, ↓yKAc, ↓yEK, ↓yENew, ↓yENa, ↓zSNop, ↓zSSeq, ↓zSBrk, ↓zSCnt, ↓zSSB, ↓zSSC, ↓zSSc, ↓zSIf, ↓zSIfE, ↓zSIfR, ↓zSIfB, ↓zSIfC, ↓zSDead, ↓ySSt, ↓ySInc, ↓ySPut, ↓ySPutC, ↓ySAst, ↓ySAstC, ↓ySK, ↓ySKp, ↓zSRv, ↓ySR, ↓ySLp, ↓ySWh, ↓ySSw, ob_s, ob_n, gd_t, gd_f, okx_r, xai_i, li0, lis, ll0, lls, la0, la0n, la0r, las, xs1_0, xs1_1, xs1_s, xs2_0, xs2_1, xs2_s, xisl_i, xisl_r, xisl_n, xisl_a, xisl_j, xisl_l, si_0, si_1, si_s, sl_0, sl_1, sl_s, sa_0, sa_1, sa_s, inc_, ii_, iz_, ll_, lz_, lsh_, lc_, i2l_, l2i_, neg_, negl_, if_, cm_, nl_r, nl_n, rI_i, rI_l, rI_r, rI_n, rI_a, rv_v, rv_i, rv_l, rv_b, rv_b1, rv_b0, rv_r, rv_n, rv_a, cat_i, cat_l, cat_r, cat_n, cat_b, rI_b, if_b, bi_, si2_, Option.bind_some, Option.bind_none, Option.map_some, Option.some.injEq, exists_eq_left, exists_eq_left', List.getElem?_cons_zero, List.getElem?_cons_succ, List.length_cons, List.length_nil, ↓reduceIte, true_and, and_true, Fin.isValue, Fin.val_zero, Fin.val_one, Fin.val_two, Fin.reduceFinMk, reduceCtorEq, exists_const, Bool.false_eq_true, Nat.reduceAdd, Nat.zero_add, Nat.reduceMul, Nat.reduceLeDiff, Nat.le_refl, exists_and_left, List.set_cons_zero, List.set_cons_succ, oX_CornerCuts, xg10_0, xg10_1, xg10_2, xg10_3, xg10_4, xg10_5, xg10_6, xg10_7, xg10_8, xg10_9, xg10_10, xg10_11, xg10_12, xp10_12, xg10_13, xp10_13, xg10_14, xq10_14, xg10_15, xq10_15, xg10_16, xq10_16, oX_History, xg2_0, xg2_1, xg2_2, xp2_2, xg2_3, xp2_3, oX_Group, xg1_0, xp1_0, xg1_1, xp1_1, xg1_2, xp1_2, xg1_3, xg1_4, xg1_5, xg1_6, xg1_7, oX_Walks, xg9_0, xg9_1, xg9_2, xg9_3, xg9_4, xq9_4, xg9_5, xq9_5, xg9_6, xp9_6, oX_Judge, xg3_0, xg3_1, xg3_2, xp3_2, oX_Table, xg6_0, xp6_0, xg6_1, xg6_2, xp6_2, xg6_3, oX_Tape, xg7_0, xg7_1, xp7_1, xg7_2, xp7_2, xg7_3, xp7_3, xa2, xt2_, xl2, xa3, xt3_, xl3, xa4, xt4_, xl4, xa5, xt5_, xl5, xa6, xt6_, xl6, xa7, xl7, xa9, xl9, xa10, xt10_, xl10, xa72, xt72_, xl72, xa74, xt74_, xl74, xa75, xt75_, xl75, xa76, xt76_, xl76, xa77, xt77_, xl77, xa78, xt78_, xl78, xa84, xt84_, xl84, xa85, xt85_, xl85, xa86, xt86_, xl86, xa92, xt92_, xl92, xa93, xt93_, xl93, xa95, xt95_, xl95, xa96, xt96_, xl96, xa147, xt147_, xl147, xa148, xt148_, xl148, xa149, xt149_, xl149, oX_Model, xg4_0, xp4_0, xg4_1, xp4_1, xg4_2, xp4_2, xg4_3, xg4_4, xg4_5, xg4_6, xg4_7, xaM1, xtM1_, xlM1, xaM2, xtM2_, xlM2, xaM3, xtM3_, xlM3, xaM4, xtM4_, xlM4, xaM5, xtM5_, zb0, lT2, lT3, lT8, lT9, lT99, lT9999, lTc0, lTc1, lTm1, lTm9, lTm99, lTm9999, oI0, oI1, oI10, oI100, oI11, oI12, oI122, oI13, oI14, oI15, oI16, oI18, oI192, oI2, oI20, oI22, oI23, oI24, oI25, oI255, oI26, oI3, oI30, oI31, oI32, oI39, oI3951, oI4, oI40, oI400, oI4000, oI439, oI4390, oI45, oI48, oI5, oI50, oI57, oI576, oI6, oI600, oI64, oI7, oI72, oI8, oI878, oI9, oI96, oI97, oI99, oI999, oI9999, oIm1, oIm2, oIm4, oIm5, oIm6, oIm9, oIm99, zb0, zb1, zb2, zb3, bI_ne, bI_eq, iz_n, rem_n, div_n, af_d, kp_d, fin3, isr_r, isr_n, isr_a, Value.ref.injEq, Sum.inr.injEq, Prod.mk.injEq, nI_m, nI_a, xinb_n, clamp_n, xc_lt, xc_le, xc_gt, xc_ge, xc_eq, xc_ne, xz_eq, xz_ne, xz_lt, xz_ge, xz_gt, xz_le, pk_sub, Nat.reduceSub, decide_true, decide_false, eq_self, Nat.add_sub_cancel, dt_lt, df_lt, dt_le, df_le, dt_eq, df_eq, iff_self, Bool.not_true, Bool.not_false, Bool.and_true, Bool.true_and, Bool.and_false, Bool.false_and, false_and, and_false, xrf_n, xrf_s, sa_0r, sa_1r, vA_eq, vA_ne, vA_2, vL_1, vL_eq, vL_ne, vL_22, vP_1, vP_21, vP_eq, vP_ne, uA_uA, uL_uL, uP_uP, uA_sx, uL_sx, uP_sx, id_eq, uA_uL, uA_uP, uL_uP, xupd_e2, xupd_ne, xupd_xupd, h2, p9]
  refine CF _ (fun τ1 hf hc => ?_)
  clear CF
  have e8 := (hf 8 (by omega)).1
  have e10 := (hf 10 (by omega)).1
  have f2 : τ1.1 8 2 = nI x := by rw [e8]; exact h2
  have f3 : τ1.1 8 3 = nI n := by rw [e8]; exact h3
  have K := K (uA (uA τ1 8 (xupd (xupd (τ1.1 8) 2 (nI ((x + 1) % 10))) 3 (nI (min (n + 1) 10)))) 10 (xupd (τ1.1 10) x s)) ?_
  · clear hf hc e8 e10
    simp (disch := first | assumption | omega | decide | rfl | (simp (disch := omega) only [vA_eq, vA_ne, vA_2, vL_1, vL_eq, vL_ne, vL_22, vP_1, vP_21, vP_eq, vP_ne, xupd_ne, xupd_e2, not_false_eq_true, implies_true, *])) only [zPIc, zPBi, zPSi, zPLdc, zPLdcw, zPLd2, zPLc, zPNull, zPIn, zPI, zPLn, zPL, zPAn, zPA, zPStr, zPCs, zPU, zPB, zPBv, zPTn, zCIf, zCCm, zCNl, zCNot, zCAnd, zCOr, zOAdd, zOSub, zOMul, zOAnd, zOOr, zOXor, zOShl, zOShr, zOUshr, zODiv, zORem, zOAddL, zOSubL, zOMulL, zOAndL, zOXorL, zORemL, zOShlL, zOShrL, zOCmpL, zOIald, zOLald, zOZald, zOAald, zOI2l, zOL2i, zONeg, zONegL, zOGet, zOAlen, zOScrL, zOScr, zOSv, zOScd, zOBln, zOBld, zOI2c, zLIn, zLI, zLLn, zLL, zLAn, zLA, zQPut, zTI, zTL, zTZ, zTA, ↓yEP, ↓yEU, ↓yEB, ↓yDC, ↓yDIf, ↓yDCm, ↓zDNot, ↓zDAnd, ↓zDOr, ↓zEBv, ↓zETn, ↓zAN, ↓zAC, ↓yKV, ↓yKS, ↓yKX, ↓yKAc, ↓yEK, ↓yENew, ↓yENa, ↓zSNop, ↓zSSeq, ↓zSBrk, ↓zSCnt, ↓zSSB, ↓zSSC, ↓zSSc, ↓zSIf, ↓zSIfE, ↓zSIfR, ↓zSIfB, ↓zSIfC, ↓zSDead, ↓ySSt, ↓ySInc, ↓ySPut, ↓ySPutC, ↓ySAst, ↓ySAstC, ↓ySK, ↓ySKp, ↓zSRv, ↓ySR, ↓ySLp, ↓ySWh, ↓ySSw, ob_s, ob_n, gd_t, gd_f, okx_r, xai_i, li0, lis, ll0, lls, la0, la0n, la0r, las, xs1_0, xs1_1, xs1_s, xs2_0, xs2_1, xs2_s, xisl_i, xisl_r, xisl_n, xisl_a, xisl_j, xisl_l, si_0, si_1, si_s, sl_0, sl_1, sl_s, sa_0, sa_1, sa_s, inc_, ii_, iz_, ll_, lz_, lsh_, lc_, i2l_, l2i_, neg_, negl_, if_, cm_, nl_r, nl_n, rI_i, rI_l, rI_r, rI_n, rI_a, rv_v, rv_i, rv_l, rv_b, rv_b1, rv_b0, rv_r, rv_n, rv_a, cat_i, cat_l, cat_r, cat_n, cat_b, rI_b, if_b, bi_, si2_, Option.bind_some, Option.bind_none, Option.map_some, Option.some.injEq, exists_eq_left, exists_eq_left', List.getElem?_cons_zero, List.getElem?_cons_succ, List.length_cons, List.length_nil, ↓reduceIte, true_and, and_true, Fin.isValue, Fin.val_zero, Fin.val_one, Fin.val_two, Fin.reduceFinMk, reduceCtorEq, exists_const, Bool.false_eq_true, Nat.reduceAdd, Nat.zero_add, Nat.reduceMul, Nat.reduceLeDiff, Nat.le_refl, exists_and_left, List.set_cons_zero, List.set_cons_succ, oX_CornerCuts, xg10_0, xg10_1, xg10_2, xg10_3, xg10_4, xg10_5, xg10_6, xg10_7, xg10_8, xg10_9, xg10_10, xg10_11, xg10_12, xp10_12, xg10_13, xp10_13, xg10_14, xq10_14, xg10_15, xq10_15, xg10_16, xq10_16, oX_History, xg2_0, xg2_1, xg2_2, xp2_2, xg2_3, xp2_3, oX_Group, xg1_0, xp1_0, xg1_1, xp1_1, xg1_2, xp1_2, xg1_3, xg1_4, xg1_5, xg1_6, xg1_7, oX_Walks, xg9_0, xg9_1, xg9_2, xg9_3, xg9_4, xq9_4, xg9_5, xq9_5, xg9_6, xp9_6, oX_Judge, xg3_0, xg3_1, xg3_2, xp3_2, oX_Table, xg6_0, xp6_0, xg6_1, xg6_2, xp6_2, xg6_3, oX_Tape, xg7_0, xg7_1, xp7_1, xg7_2, xp7_2, xg7_3, xp7_3, xa2, xt2_, xl2, xa3, xt3_, xl3, xa4, xt4_, xl4, xa5, xt5_, xl5, xa6, xt6_, xl6, xa7, xl7, xa9, xl9, xa10, xt10_, xl10, xa72, xt72_, xl72, xa74, xt74_, xl74, xa75, xt75_, xl75, xa76, xt76_, xl76, xa77, xt77_, xl77, xa78, xt78_, xl78, xa84, xt84_, xl84, xa85, xt85_, xl85, xa86, xt86_, xl86, xa92, xt92_, xl92, xa93, xt93_, xl93, xa95, xt95_, xl95, xa96, xt96_, xl96, xa147, xt147_, xl147, xa148, xt148_, xl148, xa149, xt149_, xl149, oX_Model, xg4_0, xp4_0, xg4_1, xp4_1, xg4_2, xp4_2, xg4_3, xg4_4, xg4_5, xg4_6, xg4_7, xaM1, xtM1_, xlM1, xaM2, xtM2_, xlM2, xaM3, xtM3_, xlM3, xaM4, xtM4_, xlM4, xaM5, xtM5_, zb0, lT2, lT3, lT8, lT9, lT99, lT9999, lTc0, lTc1, lTm1, lTm9, lTm99, lTm9999, oI0, oI1, oI10, oI100, oI11, oI12, oI122, oI13, oI14, oI15, oI16, oI18, oI192, oI2, oI20, oI22, oI23, oI24, oI25, oI255, oI26, oI3, oI30, oI31, oI32, oI39, oI3951, oI4, oI40, oI400, oI4000, oI439, oI4390, oI45, oI48, oI5, oI50, oI57, oI576, oI6, oI600, oI64, oI7, oI72, oI8, oI878, oI9, oI96, oI97, oI99, oI999, oI9999, oIm1, oIm2, oIm4, oIm5, oIm6, oIm9, oIm99, zb0, zb1, zb2, zb3, bI_ne, bI_eq, iz_n, rem_n, div_n, af_d, kp_d, fin3, isr_r, isr_n, isr_a, Value.ref.injEq, Sum.inr.injEq, Prod.mk.injEq, nI_m, nI_a, xinb_n, clamp_n, xc_lt, xc_le, xc_gt, xc_ge, xc_eq, xc_ne, xz_eq, xz_ne, xz_lt, xz_ge, xz_gt, xz_le, pk_sub, Nat.reduceSub, decide_true, decide_false, eq_self, Nat.add_sub_cancel, dt_lt, df_lt, dt_le, df_le, dt_eq, df_eq, iff_self, Bool.not_true, Bool.not_false, Bool.and_true, Bool.true_and, Bool.and_false, Bool.false_and, false_and, and_false, xrf_n, xrf_s, sa_0r, sa_1r, vA_eq, vA_ne, vA_2, vL_1, vL_eq, vL_ne, vL_22, vP_1, vP_21, vP_eq, vP_ne, uA_uA, uL_uL, uP_uP, uA_sx, uL_sx, uP_sx, id_eq, uA_uL, uA_uP, uL_uP, xupd_e2, xupd_ne, xupd_xupd, f2, f3, ↓e_min, mn]
    exact K
  · refine ⟨fun a a1 a2 a3 => ⟨by rw [vA_ne _ _ a2, vA_ne _ _ a1]; exact (hf a a3).1, (hf a a3).2.1, (hf a a3).2.2⟩, ?_, ⟨?_, ?_, ?_⟩, ?_, ?_⟩
    · obtain ⟨⟨c0, c1, c2⟩, c3, c4, c5, c6, c7⟩ := hc
      have g : ∀ k, k < 6 → (uA (uA τ1 8 (xupd (xupd (τ1.1 8) 2 (nI ((x + 1) % 10))) 3 (nI (min (n + 1) 10)))) 10 (xupd (τ1.1 10) x s)).1 (11 + 6 * x + k) = τ1.1 (11 + 6 * x + k) := fun k hk => by rw [vA_ne _ _ (by omega), vA_ne _ _ (by omega)]
      rw [cpM, g 1 (by omega), g 2 (by omega), g 3 (by omega), g 4 (by omega)]
      have g0 : (uA (uA τ1 8 (xupd (xupd (τ1.1 8) 2 (nI ((x + 1) % 10))) 3 (nI (min (n + 1) 10)))) 10 (xupd (τ1.1 10) x s)).1 (11 + 6 * x) = τ1.1 (11 + 6 * x) := g 0 (by omega)
      rw [g0]
      exact ⟨⟨c0, c1, c2⟩, c3, c4, c5, c6, c7⟩
    · rw [vA_ne _ _ (by omega), vA_eq, xupd_ne (by omega), xupd_eq]
    · rw [vA_ne _ _ (by omega), vA_eq, xupd_eq]
    · exact (hf 8 (by omega)).2.2
    · rw [vA_eq, e10]
    · exact (hf 10 (by omega)).2.2
theorem Rl_keep {n0 : Nat} {G : Nat → Nat → Int32} {c : XC} {τ τ1 τ2 : XS} {σ : MS} {n x m nc nk m' nc' nk' : Nat} {s : Int32} {r' : Nat → Int32} (hR : Rl n0 G c τ σ) (hH : HiR G c τ σ n x) (hr : RW (σ.2.2.1 164) m nc nk) (hm : MdR G c τ 1 (σ.2.2.1 164) m nc nk) (kp : kpF τ τ1 x n s) (f : ∀ a, 7 ≤ a → τ2.1 a = τ1.1 a ∧ τ2.2.1 a = τ1.2.1 a ∧ τ2.2.2 a = τ1.2.2 a) (hC : CI n0 G c τ2 r' m' nc' nk') (st : τ2.1 0 12 = nI 0) (ft : τ2.1 0 13 = τ.1 0 13) (hq : ∀ i q, i < 8 → τ2.2.2 6 i = some q → isQ c.1 q = true) : Rl n0 G c τ2 (sF (sA (remS (sF σ 0 (nI 0)) n s) 164 r') 1 (nI 0)) := by
  obtain ⟨-, -, hI, ⟨p1, p2, p3⟩, ⟨t, l, t1, t2, t3⟩, ⟨o1, o2, o3, o4⟩⟩ := hR
  obtain ⟨⟨h1, h2, h3, h4, h5⟩, h6⟩ := hH
  obtain ⟨k1, k2, ⟨k3, k4, k5⟩, k6, k7⟩ := kp
  -- the rest of both sides
  have far : ∀ a, 7 ≤ a → a ≠ 8 → a ≠ 10 → (a < 11 + 6 * x ∨ 11 + 6 * x + 6 ≤ a) → τ2.1 a = τ.1 a ∧ τ2.2.1 a = τ.2.1 a ∧ τ2.2.2 a = τ.2.2 a := fun a a0 a1 a2 a3 => ⟨(f a a0).1.trans (k1 a a1 a2 a3).1, (f a a0).2.1.trans (k1 a a1 a2 a3).2.1, (f a a0).2.2.trans (k1 a a1 a2 a3).2.2⟩
  have f192 : ∀ b, 192 ≤ b → τ2.1 b = τ.1 b := fun b hb => (far b (by omega) (by omega) (by omega) (by omega)).1
  -- the model that was kept
  have hc2 : cpM τ τ2 (11 + 6 * x) 1 := by
    rw [cpM, (f (11 + 6 * x) (by omega)).1, (f (11 + 6 * x + 1) (by omega)).1, (f (11 + 6 * x + 2) (by omega)).1, (f (11 + 6 * x + 3) (by omega)).1, (f (11 + 6 * x + 4) (by omega)).1, (f (11 + 6 * x + 5) (by omega)).2.2]
    exact k2
  have mx : MdR G c τ2 (11 + 6 * x) (σ.2.2.1 164) m nc nk := MdR_cp hr hc2 f192 hm
  have MX : ∀ g : Nat → Int32, (∀ j, j < 439 → σ.2.2.1 164 j = g j) → MR G c τ2 (11 + 6 * x) g := fun g hg => MR_ext hg ⟨m, nc, nk, hr, mx⟩
  have old : ∀ i, i < n → hxI x n i ≠ x → MR G c τ2 (11 + 6 * hxI x n i) (rwA (σ.2.2.1 165) (439 * i)) ∧ τ2.1 10 (hxI x n i) = σ.2.2.1 166 i := fun i hi hne => by
    have hl := hxI_lt x n i
    refine ⟨MR_eq (fun b b1 b2 => ⟨(far b (by omega) (by omega) (by omega) (by omega)).1, (far b (by omega) (by omega) (by omega) (by omega)).2.2⟩) f192 (h6 i hi).1, ?_⟩
    rw [(f 10 (by omega)).1, k6, xupd_ne hne]; exact (h6 i hi).2
  have s10 : τ2.1 10 x = s := by rw [(f 10 (by omega)).1, k6, xupd_eq]
  have hist : ∃ n' x', HiR G c τ2 (sF (sA (remS (sF σ 0 (nI 0)) n s) 164 r') 1 (nI 0)) n' x' := by
    by_cases e : n = 10
    · subst e
      have er : remS (sF σ 0 (nI 0)) 10 s = sF (sA (sA (sF σ 0 (nI 0)) 165 (va_cpy (σ.2.2.1 164) (shf (σ.2.2.1 165) 439 3951) 0 3951 439)) 166 (xupd (shf (σ.2.2.1 166) 1 9) 9 s)) 6 (nI 10) := if_pos rfl
      rw [er]
      refine ⟨10, (x + 1) % 10, ⟨rfl, by rw [(f 8 (by omega)).1, k4]; rfl, by omega, by rw [(f 8 (by omega)).1, k3], by omega⟩, fun i hi => ?_⟩
      show MR G c τ2 _ (rwA (va_cpy (σ.2.2.1 164) (shf (σ.2.2.1 165) 439 3951) 0 3951 439) (439 * i)) ∧ τ2.1 10 _ = xupd (shf (σ.2.2.1 166) 1 9) 9 s i
      by_cases i9 : i = 9
      · subst i9
        have hx' : hxI ((x + 1) % 10) 10 9 = x := by rw [hxI]; omega
        rw [hx', xupd_eq]
        exact ⟨MX _ (fun j hj => by rw [rwA, va_cpy, if_pos (by omega)]; exact congrArg _ (by omega)), s10⟩
      · have hx' : hxI ((x + 1) % 10) 10 i = hxI x 10 (i + 1) := by rw [hxI, hxI]; omega
        rw [hx', xupd_ne i9]
        have o := old (i + 1) (by omega) (by rw [hxI]; omega)
        refine ⟨MR_ext (fun j hj => ?_) o.1, ?_⟩
        · rw [rwA, rwA, va_cpy, if_neg (by omega), shf, if_pos (by omega)]; exact congrArg _ (by omega)
        · rw [o.2, shf, if_pos (by omega)]
    · have er : remS (sF σ 0 (nI 0)) n s = sF (sA (sA (sF σ 0 (nI 0)) 165 (va_cpy (σ.2.2.1 164) (σ.2.2.1 165) 0 (439 * n) 439)) 166 (xupd (σ.2.2.1 166) n s)) 6 (nI (n + 1)) := if_neg e
      rw [er]
      refine ⟨n + 1, (x + 1) % 10, ⟨rfl, by rw [(f 8 (by omega)).1, k4, Nat.min_eq_left (by omega)], by omega, by rw [(f 8 (by omega)).1, k3], by omega⟩, fun i hi => ?_⟩
      show MR G c τ2 _ (rwA (va_cpy (σ.2.2.1 164) (σ.2.2.1 165) 0 (439 * n) 439) (439 * i)) ∧ τ2.1 10 _ = xupd (σ.2.2.1 166) n s i
      by_cases i9 : i = n
      · subst i9
        have hx' : hxI ((x + 1) % 10) (i + 1) i = x := by rw [hxI]; omega
        rw [hx', xupd_eq]
        exact ⟨MX _ (fun j hj => by rw [rwA, va_cpy, if_pos (by omega)]; exact congrArg _ (by omega)), s10⟩
      · have hx' : hxI ((x + 1) % 10) (n + 1) i = hxI x n i := by rw [hxI, hxI]; omega
        rw [hx', xupd_ne i9]
        have o := old i (by omega) (by rw [hxI]; omega)
        refine ⟨MR_ext (fun j hj => ?_) o.1, o.2⟩
        rw [rwA, rwA, va_cpy, if_neg (by omega)]
  have g1 : ∀ k, k ≠ 6 → k ≠ 1 → k ≠ 0 → (sF (sA (remS (sF σ 0 (nI 0)) n s) 164 r') 1 (nI 0)).1 k = σ.1 k := fun k a1 a2 a3 => by
    show xupd (remS (sF σ 0 (nI 0)) n s).1 1 (nI 0) k = _
    rw [xupd_ne a2, rem_1 _ _ _ a1]
    exact xupd_ne a3
  have g2 : ∀ a, a ≠ 164 → a ≠ 165 → a ≠ 166 → (sF (sA (remS (sF σ 0 (nI 0)) n s) 164 r') 1 (nI 0)).2.2.1 a = σ.2.2.1 a := fun a a1 a2 a3 => by
    show xupd (remS (sF σ 0 (nI 0)) n s).2.2.1 164 r' a = _
    rw [xupd_ne a1, rem_a _ _ _ a2 a3]; rfl
  have g3 : (sF (sA (remS (sF σ 0 (nI 0)) n s) 164 r') 1 (nI 0)).2.2.2 = σ.2.2.2 := by
    show (remS (sF σ 0 (nI 0)) n s).2.2.2 = _
    unfold remS; split <;> rfl
  refine ⟨⟨m', nc', nk', hC⟩, hist, fun k hk => ?_, ⟨fun j hj => ?_, fun k hk => ?_, fun a i q ha hi e => ?_⟩, ⟨t, l, ⟨?_, t1.2.1, ?_⟩, ?_, ?_⟩, ⟨?_, ?_, ?_, ?_⟩⟩
  · rw [g2 168 (by decide) (by decide) (by decide), g2 167 (by decide) (by decide) (by decide), (far (150 + 6 * k) (by omega) (by omega) (by omega) (by omega)).1]
    rcases hI k hk with z | ⟨z1, z2⟩
    · exact Or.inl z
    · exact Or.inr ⟨z1, MR_eq (fun b b1 b2 => ⟨(far b (by omega) (by omega) (by omega) (by omega)).1, (far b (by omega) (by omega) (by omega) (by omega)).2.2⟩) f192 z2⟩
  · rw [(far 9 (by omega) (by omega) (by omega) (by omega)).2.2]; exact p1 j hj
  · rw [(far 7 (by omega) (by omega) (by omega) (by omega)).2.2]; exact p2 k hk
  · have oa := isM_or ha
    by_cases e1 : a = 1
    · subst e1; exact hq i q hi e
    · by_cases ex : a = 11 + 6 * x
      · subst ex
        rw [hc2.2.2.2.2.2 i hi] at e
        exact p3 1 i q rfl hi e
      · refine p3 a i q ha hi ?_
        rw [← (far (a + 5) (by omega) (by omega) (by omega) (by omega)).2.2]; exact e
  · rw [g1 23 (by decide) (by decide) (by decide)]; exact t1.1
  · rw [g2 179 (by decide) (by decide) (by decide)]; exact t1.2.2
  · rw [(far 71 (by omega) (by omega) (by omega) (by omega)).1]; exact t2
  · rw [(far 72 (by omega) (by omega) (by omega) (by omega)).1]; exact t3
  · rw [(far 149 (by omega) (by omega) (by omega) (by omega)).1, g2 163 (by decide) (by decide) (by decide)]; exact o1
  · rw [st]; rfl
  · rw [ft, g1 28 (by decide) (by decide) (by decide)]; exact o3
  · intro i hi; rw [g3]; exact o4 i hi
