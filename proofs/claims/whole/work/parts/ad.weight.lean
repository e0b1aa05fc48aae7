/-! walks as one number: the class's way -/
theorem sm_L : ∀ e : Fin 63, (((nI e.val).toInt64 &&& 63).toBitVec.smod 64).toNat = e.val := by decide +kernel
theorem tnL {n : Nat} (h : n < 18446744073709551616) : (lN n).toBitVec.toNat = n := by
  show (BitVec.ofNat 64 n).toNat = n
  rw [BitVec.toNat_ofNat]; exact Nat.mod_eq_of_lt h
theorem xL_shl {n e : Nat} (he : e < 63) (h : n * 2 ^ e < 18446744073709551616) : xshlL (lN n) (nI e) = lN (n * 2 ^ e) := by
  apply Int64.toBitVec_inj.mp
  apply BitVec.eq_of_toNat_eq
  have hn : n < 18446744073709551616 := Nat.lt_of_le_of_lt (Nat.le_mul_of_pos_right n (Nat.two_pow_pos e)) h
  rw [tnL h]
  show ((lN n).toBitVec <<< (((nI e).toInt64 &&& 63).toBitVec.smod 64).toNat).toNat = _
  rw [sm_L ⟨e, he⟩, BitVec.toNat_shiftLeft, Nat.shiftLeft_eq, tnL hn]
  exact Nat.mod_eq_of_lt h
theorem xL_shr {n e : Nat} (he : e < 63) (h : n < 9223372036854775808) : xshrL (lN n) (nI e) = lN (n / 2 ^ e) := by
  apply Int64.toInt_inj.mp
  have h2 : n / 2 ^ e ≤ n := Nat.div_le_self _ _
  rw [lN_big (by omega)]
  show ((lN n).toBitVec.sshiftRight (((nI e).toInt64 &&& 63).toBitVec.smod 64).toNat).toInt = _
  rw [sm_L ⟨e, he⟩, BitVec.toInt_sshiftRight]
  show (lN n).toInt >>> e = _
  rw [lN_big h, Int.shiftRight_eq_div_pow]
  rfl
theorem lN_and (a b : Nat) : lN a &&& lN b = lN (a &&& b) := by
  apply Int64.toBitVec_inj.mp
  show BitVec.ofNat 64 a &&& BitVec.ofNat 64 b = BitVec.ofNat 64 (a &&& b)
  rw [BitVec.ofNat_and]
theorem p40 : 2 ^ 40 = 1099511627776 := by decide
theorem p32 : 2 ^ 32 = 4294967296 := by decide
theorem p8 : 2 ^ 8 = 256 := by decide
theorem kW32 : Value.long (4294967296 : Int64) = Value.long (lN 4294967296) := rfl
theorem k255 : Value.long (255 : Int64) = Value.long (lN 255) := rfl
theorem and255 (n : Nat) : n &&& 255 = n % 256 := Nat.and_two_pow_sub_one_eq_mod n 8
theorem and31 (n : Nat) : n &&& 31 = n % 32 := Nat.and_two_pow_sub_one_eq_mod n 5
theorem pw_eq {k : Nat} (hk : k < 6) : 1 * 2 ^ (5 * (5 - k)) = pwC k := by
  have hc : k = 0 ∨ k = 1 ∨ k = 2 ∨ k = 3 ∨ k = 4 ∨ k = 5 := by omega
  rcases hc with rfl | rfl | rfl | rfl | rfl | rfl <;> rfl
theorem pw_dv {k : Nat} (hk : k < 6) : 2 ^ (5 * (5 - k)) = pwC k := by rw [← pw_eq hk, Nat.one_mul]
theorem ex_timesShift (k : Nat) (h : AH) (Q : Option Value → AH → Prop) (hk : k < 6) : m_X10_timesShift.1 [.int (nI k)] h Q ↔ Q (some (.int (nI (5 * (5 - k))))) h := by
  refine (xM_iff (g := g_X10_timesShift) (b := b_X10_timesShift) [.int (nI k)] (Nat.le_of_ble_eq_true rfl) rfl).trans ?_
  simp (disch := first | assumption | omega | decide | rfl | (simp (disch := omega) only [vA_eq, vA_ne, vA_2, vL_1, vL_eq, vL_ne, vL_22, vP_1, vP_21, vP_eq, vP_ne, xupd_ne, xupd_e2, not_false_eq_true, implies_true, *])) only [b_X10_timesShift, g_X10_timesShift, zPIc, zPBi, zPSi, zPLdc, zPLdcw, zPLd2, zPLc, zPNull, zPIn, zPI, zPLn, zPL, zPAn, zPA, zPStr, zPCs, zPU, zPB, zPBv, zPTn, zCIf, zCCm, zCNl, zCNot, zCAnd, zCOr, zOAdd, zOSub, zOMul, zOAnd, zOOr, zOXor, zOShl, zOShr, zOUshr, zODiv, zORem, zOAddL, zOSubL, zOMulL, zOAndL, zOXorL, zORemL, zOShlL, zOShrL, zOCmpL, zOIald, zOLald, zOZald, zOAald, zOI2l, zOL2i, zONeg, zONegL, zOGet, zOAlen, zOScrL, zOScr, zOSv, zOScd, zOBln, zOBld, zOI2c, zLIn, zLI, zLLn, zLL, zLAn, zLA, zQPut, zTI, zTL, zTZ, zTA, ↓yEP, ↓yEU, ↓yEB, ↓yDC, ↓yDIf, ↓yDCm, ↓zDNot, ↓zDAnd, ↓zDOr, ↓zEBv, ↓zETn, ↓zAN, ↓zAC, ↓yKV, ↓yKS, ↓yKX, ↓yKAc, ↓yEK, ↓yENew, ↓yENa, ↓zSNop, ↓zSSeq, ↓zSBrk, ↓zSCnt, ↓zSSB, ↓zSSC, ↓zSSc, ↓zSIf, ↓zSIfE, ↓zSIfR, ↓zSIfB, ↓zSIfC, ↓zSDead, ↓ySSt, ↓ySInc, ↓ySPut, ↓ySPutC, ↓ySAst, ↓ySAstC, ↓ySK, ↓ySKp, ↓zSRv, ↓ySR, ↓ySLp, ↓ySWh, ↓ySSw, ob_s, ob_n, gd_t, gd_f, okx_r, xai_i, li0, lis, ll0, lls, la0, la0n, la0r, las, xs1_0, xs1_1, xs1_s, xs2_0, xs2_1, xs2_s, xisl_i, xisl_r, xisl_n, xisl_a, xisl_j, xisl_l, si_0, si_1, si_s, sl_0, sl_1, sl_s, sa_0, sa_1, sa_s, inc_, ii_, iz_, ll_, lz_, lsh_, lc_, i2l_, l2i_, neg_, negl_, if_, cm_, nl_r, nl_n, rI_i, rI_l, rI_r, rI_n, rI_a, rv_v, rv_i, rv_l, rv_b, rv_b1, rv_b0, rv_r, rv_n, rv_a, cat_i, cat_l, cat_r, cat_n, cat_b, rI_b, if_b, bi_, si2_, Option.bind_some, Option.bind_none, Option.map_some, Option.some.injEq, exists_eq_left, exists_eq_left', List.getElem?_cons_zero, List.getElem?_cons_succ, List.length_cons, List.length_nil, ↓reduceIte, true_and, and_true, Fin.isValue, Fin.val_zero, Fin.val_one, Fin.val_two, Fin.reduceFinMk, reduceCtorEq, exists_const, Bool.false_eq_true, Nat.reduceAdd, Nat.zero_add, Nat.reduceMul, Nat.reduceLeDiff, Nat.le_refl, exists_and_left, List.set_cons_zero, List.set_cons_succ, zb0, lT2, lT3, lT8, lT9, lT99, lT9999, lTc0, lTc1, lTm1, lTm9, lTm99, lTm9999, oI0, oI1, oI10, oI100, oI11, oI12, oI122, oI13, oI14, oI15, oI16, oI18, oI192, oI2, oI20, oI22, oI23, oI24, oI25, oI255, oI26, oI3, oI30, oI31, oI32, oI39, oI3951, oI4, oI40, oI400, oI4000, oI439, oI4390, oI45, oI48, oI5, oI50, oI57, oI576, oI6, oI600, oI64, oI7, oI72, oI8, oI878, oI9, oI96, oI97, oI99, oI999, oI9999, oIm1, oIm2, oIm4, oIm5, oIm6, oIm9, oIm99, zb0, zb1, zb2, zb3, bI_ne, bI_eq, iz_n, rem_n, div_n, af_d, kp_d, fin3, isr_r, isr_n, isr_a, Value.ref.injEq, Sum.inr.injEq, Prod.mk.injEq, nI_m, nI_a, xinb_n, clamp_n, xc_lt, xc_le, xc_gt, xc_ge, xc_eq, xc_ne, xz_eq, xz_ne, xz_lt, xz_ge, xz_gt, xz_le, pk_sub, Nat.reduceSub, decide_true, decide_false, eq_self, Nat.add_sub_cancel, dt_lt, df_lt, dt_le, df_le, dt_eq, df_eq, iff_self, Bool.not_true, Bool.not_false, Bool.and_true, Bool.true_and, Bool.and_false, Bool.false_and, false_and, and_false, xrf_n, xrf_s, vA_eq, vA_ne, vA_2, vL_1, vL_eq, vL_ne, vL_22, vP_1, vP_21, vP_eq, vP_ne, uA_uA, uL_uL, uP_uP, uA_sx, uL_sx, uP_sx, id_eq, uA_uL, uA_uP, uL_uP, xupd_e2, xupd_ne, xupd_xupd]
theorem ex_ofColumn (k p : Nat) (h : AH) (Q : Option Value → AH → Prop) (hk : k < 6) (hp : p ≤ 99) : m_X10_ofColumn.1 [.int (nI k), .int (nI p)] h Q ↔ Q (some (.long (lN (p * 1099511627776 + 4294967296 - pwC k)))) h := by
  have e1 := pw_eq hk
  have e2 := pwC_le k
  have e4 : 5 * (5 - k) < 63 := by omega
  have e5 : 1 * 2 ^ (5 * (5 - k)) < 18446744073709551616 := by rw [e1]; omega
  have s1 : xshlL (lN p) (nI 40) = lN (p * 1099511627776) := by have := xL_shl (n := p) (e := 40) (by omega) (by rw [p40]; omega); rwa [p40] at this
  have s2 := xL_shl (n := 1) e4 e5
  rw [e1] at s2
  clear e1 e5
  refine (xM_iff (g := g_X10_ofColumn) (b := b_X10_ofColumn) [.int (nI k), .int (nI p)] (Nat.le_of_ble_eq_true rfl) rfl).trans ?_
  simp (disch := first | assumption | omega | decide | rfl | (simp (disch := omega) only [vA_eq, vA_ne, vA_2, vL_1, vL_eq, vL_ne, vL_22, vP_1, vP_21, vP_eq, vP_ne, xupd_ne, xupd_e2, not_false_eq_true, implies_true, *])) only [b_X10_ofColumn, g_X10_ofColumn, zPIc, zPBi, zPSi, zPLdc, zPLdcw, zPLd2, zPLc, zPNull, zPIn, zPI, zPLn, zPL, zPAn, zPA, zPStr, zPCs, zPU, zPB, zPBv, zPTn, zCIf, zCCm, zCNl, zCNot, zCAnd, zCOr, zOAdd, zOSub, zOMul, zOAnd, zOOr, zOXor, zOShl, zOShr, zOUshr, zODiv, zORem, zOAddL, zOSubL, zOMulL, zOAndL, zOXorL, zORemL, zOShlL, zOShrL, zOCmpL, zOIald, zOLald, zOZald, zOAald, zOI2l, zOL2i, zONeg, zONegL, zOGet, zOAlen, zOScrL, zOScr, zOSv, zOScd, zOBln, zOBld, zOI2c, zLIn, zLI, zLLn, zLL, zLAn, zLA, zQPut, zTI, zTL, zTZ, zTA, ↓yEP, ↓yEU, ↓yEB, ↓yDC, ↓yDIf, ↓yDCm, ↓zDNot, ↓zDAnd, ↓zDOr, ↓zEBv, ↓zETn, ↓zAN, ↓zAC, ↓yKV, ↓yKS, ↓yKX, ↓yKAc, ↓yEK, ↓yENew, ↓yENa, ↓zSNop, ↓zSSeq, ↓zSBrk, ↓zSCnt, ↓zSSB, ↓zSSC, ↓zSSc, ↓zSIf, ↓zSIfE, ↓zSIfR, ↓zSIfB, ↓zSIfC, ↓zSDead, ↓ySSt, ↓ySInc, ↓ySPut, ↓ySPutC, ↓ySAst, ↓ySAstC, ↓ySK, ↓ySKp, ↓zSRv, ↓ySR, ↓ySLp, ↓ySWh, ↓ySSw, ob_s, ob_n, gd_t, gd_f, okx_r, xai_i, li0, lis, ll0, lls, la0, la0n, la0r, las, xs1_0, xs1_1, xs1_s, xs2_0, xs2_1, xs2_s, xisl_i, xisl_r, xisl_n, xisl_a, xisl_j, xisl_l, si_0, si_1, si_s, sl_0, sl_1, sl_s, sa_0, sa_1, sa_s, inc_, ii_, iz_, ll_, lz_, lsh_, lc_, i2l_, l2i_, neg_, negl_, if_, cm_, nl_r, nl_n, rI_i, rI_l, rI_r, rI_n, rI_a, rv_v, rv_i, rv_l, rv_b, rv_b1, rv_b0, rv_r, rv_n, rv_a, cat_i, cat_l, cat_r, cat_n, cat_b, rI_b, if_b, bi_, si2_, Option.bind_some, Option.bind_none, Option.map_some, Option.some.injEq, exists_eq_left, exists_eq_left', List.getElem?_cons_zero, List.getElem?_cons_succ, List.length_cons, List.length_nil, ↓reduceIte, true_and, and_true, Fin.isValue, Fin.val_zero, Fin.val_one, Fin.val_two, Fin.reduceFinMk, reduceCtorEq, exists_const, Bool.false_eq_true, Nat.reduceAdd, Nat.zero_add, Nat.reduceMul, Nat.reduceLeDiff, Nat.le_refl, exists_and_left, List.set_cons_zero, List.set_cons_succ, zb0, lT2, lT3, lT8, lT9, lT99, lT9999, lTc0, lTc1, lTm1, lTm9, lTm99, lTm9999, oI0, oI1, oI10, oI100, oI11, oI12, oI122, oI13, oI14, oI15, oI16, oI18, oI192, oI2, oI20, oI22, oI23, oI24, oI25, oI255, oI26, oI3, oI30, oI31, oI32, oI39, oI3951, oI4, oI40, oI400, oI4000, oI439, oI4390, oI45, oI48, oI5, oI50, oI57, oI576, oI6, oI600, oI64, oI7, oI72, oI8, oI878, oI9, oI96, oI97, oI99, oI999, oI9999, oIm1, oIm2, oIm4, oIm5, oIm6, oIm9, oIm99, zb0, zb1, zb2, zb3, bI_ne, bI_eq, iz_n, rem_n, div_n, af_d, kp_d, fin3, isr_r, isr_n, isr_a, Value.ref.injEq, Sum.inr.injEq, Prod.mk.injEq, nI_m, nI_a, xinb_n, clamp_n, xc_lt, xc_le, xc_gt, xc_ge, xc_eq, xc_ne, xz_eq, xz_ne, xz_lt, xz_ge, xz_gt, xz_le, pk_sub, Nat.reduceSub, decide_true, decide_false, eq_self, Nat.add_sub_cancel, dt_lt, df_lt, dt_le, df_le, dt_eq, df_eq, iff_self, Bool.not_true, Bool.not_false, Bool.and_true, Bool.true_and, Bool.and_false, Bool.false_and, false_and, and_false, xrf_n, xrf_s, vA_eq, vA_ne, vA_2, vL_1, vL_eq, vL_ne, vL_22, vP_1, vP_21, vP_eq, vP_ne, uA_uA, uL_uL, uP_uP, uA_sx, uL_sx, uP_sx, id_eq, uA_uL, uA_uP, uL_uP, xupd_e2, xupd_ne, xupd_xupd, nI_L, s1, kW32, l1N, ↓ex_timesShift, s2, lN_ad, lN_sub]
theorem ex_withoutTimes (x : Nat) (h : AH) (Q : Option Value → AH → Prop) (hx : x < 4611686018427387904) : m_X10_withoutTimes.1 [.long (lN x)] h Q ↔ Q (some (.long (lN (wzO x)))) h := by
  have s1 : xshrL (lN (x + 4294967295)) (nI 32) = lN (wzO x) := by have := xL_shr (n := x + 4294967295) (e := 32) (by omega) (by omega); rwa [p32] at this
  have s2 : lN (x + 4294967296 - 1) = lN (x + 4294967295) := congrArg lN (by omega)
  refine (xM_iff (g := g_X10_withoutTimes) (b := b_X10_withoutTimes) [.long (lN x), xjk] (Nat.le_of_ble_eq_true rfl) rfl).trans ?_
  simp (disch := first | assumption | omega | decide | rfl | (simp (disch := omega) only [vA_eq, vA_ne, vA_2, vL_1, vL_eq, vL_ne, vL_22, vP_1, vP_21, vP_eq, vP_ne, xupd_ne, xupd_e2, not_false_eq_true, implies_true, *])) only [b_X10_withoutTimes, g_X10_withoutTimes, zPIc, zPBi, zPSi, zPLdc, zPLdcw, zPLd2, zPLc, zPNull, zPIn, zPI, zPLn, zPL, zPAn, zPA, zPStr, zPCs, zPU, zPB, zPBv, zPTn, zCIf, zCCm, zCNl, zCNot, zCAnd, zCOr, zOAdd, zOSub, zOMul, zOAnd, zOOr, zOXor, zOShl, zOShr, zOUshr, zODiv, zORem, zOAddL, zOSubL, zOMulL, zOAndL, zOXorL, zORemL, zOShlL, zOShrL, zOCmpL, zOIald, zOLald, zOZald, zOAald, zOI2l, zOL2i, zONeg, zONegL, zOGet, zOAlen, zOScrL, zOScr, zOSv, zOScd, zOBln, zOBld, zOI2c, zLIn, zLI, zLLn, zLL, zLAn, zLA, zQPut, zTI, zTL, zTZ, zTA, ↓yEP, ↓yEU, ↓yEB, ↓yDC, ↓yDIf, ↓yDCm, ↓zDNot, ↓zDAnd, ↓zDOr, ↓zEBv, ↓zETn, ↓zAN, ↓zAC, ↓yKV, ↓yKS, ↓yKX, ↓yKAc, ↓yEK, ↓yENew, ↓yENa, ↓zSNop, ↓zSSeq, ↓zSBrk, ↓zSCnt, ↓zSSB, ↓zSSC, ↓zSSc, ↓zSIf, ↓zSIfE, ↓zSIfR, ↓zSIfB, ↓zSIfC, ↓zSDead, ↓ySSt, ↓ySInc, ↓ySPut, ↓ySPutC, ↓ySAst, ↓ySAstC, ↓ySK, ↓ySKp, ↓zSRv, ↓ySR, ↓ySLp, ↓ySWh, ↓ySSw, ob_s, ob_n, gd_t, gd_f, okx_r, xai_i, li0, lis, ll0, lls, la0, la0n, la0r, las, xs1_0, xs1_1, xs1_s, xs2_0, xs2_1, xs2_s, xisl_i, xisl_r, xisl_n, xisl_a, xisl_j, xisl_l, si_0, si_1, si_s, sl_0, sl_1, sl_s, sa_0, sa_1, sa_s, inc_, ii_, iz_, ll_, lz_, lsh_, lc_, i2l_, l2i_, neg_, negl_, if_, cm_, nl_r, nl_n, rI_i, rI_l, rI_r, rI_n, rI_a, rv_v, rv_i, rv_l, rv_b, rv_b1, rv_b0, rv_r, rv_n, rv_a, cat_i, cat_l, cat_r, cat_n, cat_b, rI_b, if_b, bi_, si2_, Option.bind_some, Option.bind_none, Option.map_some, Option.some.injEq, exists_eq_left, exists_eq_left', List.getElem?_cons_zero, List.getElem?_cons_succ, List.length_cons, List.length_nil, ↓reduceIte, true_and, and_true, Fin.isValue, Fin.val_zero, Fin.val_one, Fin.val_two, Fin.reduceFinMk, reduceCtorEq, exists_const, Bool.false_eq_true, Nat.reduceAdd, Nat.zero_add, Nat.reduceMul, Nat.reduceLeDiff, Nat.le_refl, exists_and_left, List.set_cons_zero, List.set_cons_succ, zb0, lT2, lT3, lT8, lT9, lT99, lT9999, lTc0, lTc1, lTm1, lTm9, lTm99, lTm9999, oI0, oI1, oI10, oI100, oI11, oI12, oI122, oI13, oI14, oI15, oI16, oI18, oI192, oI2, oI20, oI22, oI23, oI24, oI25, oI255, oI26, oI3, oI30, oI31, oI32, oI39, oI3951, oI4, oI40, oI400, oI4000, oI439, oI4390, oI45, oI48, oI5, oI50, oI57, oI576, oI6, oI600, oI64, oI7, oI72, oI8, oI878, oI9, oI96, oI97, oI99, oI999, oI9999, oIm1, oIm2, oIm4, oIm5, oIm6, oIm9, oIm99, zb0, zb1, zb2, zb3, bI_ne, bI_eq, iz_n, rem_n, div_n, af_d, kp_d, fin3, isr_r, isr_n, isr_a, Value.ref.injEq, Sum.inr.injEq, Prod.mk.injEq, nI_m, nI_a, xinb_n, clamp_n, xc_lt, xc_le, xc_gt, xc_ge, xc_eq, xc_ne, xz_eq, xz_ne, xz_lt, xz_ge, xz_gt, xz_le, pk_sub, Nat.reduceSub, decide_true, decide_false, eq_self, Nat.add_sub_cancel, dt_lt, df_lt, dt_le, df_le, dt_eq, df_eq, iff_self, Bool.not_true, Bool.not_false, Bool.and_true, Bool.true_and, Bool.and_false, Bool.false_and, false_and, and_false, xrf_n, xrf_s, vA_eq, vA_ne, vA_2, vL_1, vL_eq, vL_ne, vL_22, vP_1, vP_21, vP_eq, vP_ne, uA_uA, uL_uL, uP_uP, uA_sx, uL_sx, uP_sx, id_eq, uA_uL, uA_uP, uL_uP, xupd_e2, xupd_ne, xupd_xupd, kW32, l1N, lN_ad, lN_sub, s2, s1]
theorem wz_le (x : Nat) : wzO x * 4294967296 ≥ x := by rw [wzO]; omega
theorem wz_lt {x : Nat} (hx : x < 4611686018427387904) : wzO x ≤ 1073741824 := by rw [wzO]; omega
theorem ex_costOf (x : Nat) (h : AH) (Q : Option Value → AH → Prop) (hx : x < 4611686018427387904) : m_X10_costOf.1 [.long (lN x)] h Q ↔ Q (some (.int (nI (deT x 0)))) h := by
  have hw := wz_lt hx
  have e0 : deT x 0 = wzO x / 256 := by rw [deT, if_pos rfl]
  have s1 : xshrL (lN (wzO x)) (nI 8) = lN (wzO x / 256) := by have := xL_shr (n := wzO x) (e := 8) (by omega) (by omega); rwa [p8] at this
  rw [e0]
  clear e0
  refine (xM_iff (g := g_X10_costOf) (b := b_X10_costOf) [.long (lN x), xjk] (Nat.le_of_ble_eq_true rfl) rfl).trans ?_
  simp (disch := first | assumption | omega | decide | rfl | (simp (disch := omega) only [vA_eq, vA_ne, vA_2, vL_1, vL_eq, vL_ne, vL_22, vP_1, vP_21, vP_eq, vP_ne, xupd_ne, xupd_e2, not_false_eq_true, implies_true, *])) only [b_X10_costOf, g_X10_costOf, zPIc, zPBi, zPSi, zPLdc, zPLdcw, zPLd2, zPLc, zPNull, zPIn, zPI, zPLn, zPL, zPAn, zPA, zPStr, zPCs, zPU, zPB, zPBv, zPTn, zCIf, zCCm, zCNl, zCNot, zCAnd, zCOr, zOAdd, zOSub, zOMul, zOAnd, zOOr, zOXor, zOShl, zOShr, zOUshr, zODiv, zORem, zOAddL, zOSubL, zOMulL, zOAndL, zOXorL, zORemL, zOShlL, zOShrL, zOCmpL, zOIald, zOLald, zOZald, zOAald, zOI2l, zOL2i, zONeg, zONegL, zOGet, zOAlen, zOScrL, zOScr, zOSv, zOScd, zOBln, zOBld, zOI2c, zLIn, zLI, zLLn, zLL, zLAn, zLA, zQPut, zTI, zTL, zTZ, zTA, ↓yEP, ↓yEU, ↓yEB, ↓yDC, ↓yDIf, ↓yDCm, ↓zDNot, ↓zDAnd, ↓zDOr, ↓zEBv, ↓zETn, ↓zAN, ↓zAC, ↓yKV, ↓yKS, ↓yKX, ↓yKAc, ↓yEK, ↓yENew, ↓yENa, ↓zSNop, ↓zSSeq, ↓zSBrk, ↓zSCnt, ↓zSSB, ↓zSSC, ↓zSSc, ↓zSIf, ↓zSIfE, ↓zSIfR, ↓zSIfB, ↓zSIfC, ↓zSDead, ↓ySSt, ↓ySInc, ↓ySPut, ↓ySPutC, ↓ySAst, ↓ySAstC, ↓ySK, ↓ySKp, ↓zSRv, ↓ySR, ↓ySLp, ↓ySWh, ↓ySSw, ob_s, ob_n, gd_t, gd_f, okx_r, xai_i, li0, lis, ll0, lls, la0, la0n, la0r, las, xs1_0, xs1_1, xs1_s, xs2_0, xs2_1, xs2_s, xisl_i, xisl_r, xisl_n, xisl_a, xisl_j, xisl_l, si_0, si_1, si_s, sl_0, sl_1, sl_s, sa_0, sa_1, sa_s, inc_, ii_, iz_, ll_, lz_, lsh_, lc_, i2l_, l2i_, neg_, negl_, if_, cm_, nl_r, nl_n, rI_i, rI_l, rI_r, rI_n, rI_a, rv_v, rv_i, rv_l, rv_b, rv_b1, rv_b0, rv_r, rv_n, rv_a, cat_i, cat_l, cat_r, cat_n, cat_b, rI_b, if_b, bi_, si2_, Option.bind_some, Option.bind_none, Option.map_some, Option.some.injEq, exists_eq_left, exists_eq_left', List.getElem?_cons_zero, List.getElem?_cons_succ, List.length_cons, List.length_nil, ↓reduceIte, true_and, and_true, Fin.isValue, Fin.val_zero, Fin.val_one, Fin.val_two, Fin.reduceFinMk, reduceCtorEq, exists_const, Bool.false_eq_true, Nat.reduceAdd, Nat.zero_add, Nat.reduceMul, Nat.reduceLeDiff, Nat.le_refl, exists_and_left, List.set_cons_zero, List.set_cons_succ, zb0, lT2, lT3, lT8, lT9, lT99, lT9999, lTc0, lTc1, lTm1, lTm9, lTm99, lTm9999, oI0, oI1, oI10, oI100, oI11, oI12, oI122, oI13, oI14, oI15, oI16, oI18, oI192, oI2, oI20, oI22, oI23, oI24, oI25, oI255, oI26, oI3, oI30, oI31, oI32, oI39, oI3951, oI4, oI40, oI400, oI4000, oI439, oI4390, oI45, oI48, oI5, oI50, oI57, oI576, oI6, oI600, oI64, oI7, oI72, oI8, oI878, oI9, oI96, oI97, oI99, oI999, oI9999, oIm1, oIm2, oIm4, oIm5, oIm6, oIm9, oIm99, zb0, zb1, zb2, zb3, bI_ne, bI_eq, iz_n, rem_n, div_n, af_d, kp_d, fin3, isr_r, isr_n, isr_a, Value.ref.injEq, Sum.inr.injEq, Prod.mk.injEq, nI_m, nI_a, xinb_n, clamp_n, xc_lt, xc_le, xc_gt, xc_ge, xc_eq, xc_ne, xz_eq, xz_ne, xz_lt, xz_ge, xz_gt, xz_le, pk_sub, Nat.reduceSub, decide_true, decide_false, eq_self, Nat.add_sub_cancel, dt_lt, df_lt, dt_le, df_le, dt_eq, df_eq, iff_self, Bool.not_true, Bool.not_false, Bool.and_true, Bool.true_and, Bool.and_false, Bool.false_and, false_and, and_false, xrf_n, xrf_s, vA_eq, vA_ne, vA_2, vL_1, vL_eq, vL_ne, vL_22, vP_1, vP_21, vP_eq, vP_ne, uA_uA, uL_uL, uP_uP, uA_sx, uL_sx, uP_sx, id_eq, uA_uL, uA_uP, uL_uP, xupd_e2, xupd_ne, xupd_xupd, ↓ex_withoutTimes, s1, lN_i]
theorem ex_stepsOf (x : Nat) (h : AH) (Q : Option Value → AH → Prop) (hx : x < 4611686018427387904) : m_X10_stepsOf.1 [.long (lN x)] h Q ↔ Q (some (.int (nI (deT x 1)))) h := by
  have s1 : deT x 1 = wzO x % 256 := by rw [deT, if_neg (by omega), if_pos rfl]
  rw [s1]
  refine (xM_iff (g := g_X10_stepsOf) (b := b_X10_stepsOf) [.long (lN x), xjk] (Nat.le_of_ble_eq_true rfl) rfl).trans ?_
  simp (disch := first | assumption | omega | decide | rfl | (simp (disch := omega) only [vA_eq, vA_ne, vA_2, vL_1, vL_eq, vL_ne, vL_22, vP_1, vP_21, vP_eq, vP_ne, xupd_ne, xupd_e2, not_false_eq_true, implies_true, *])) only [b_X10_stepsOf, g_X10_stepsOf, zPIc, zPBi, zPSi, zPLdc, zPLdcw, zPLd2, zPLc, zPNull, zPIn, zPI, zPLn, zPL, zPAn, zPA, zPStr, zPCs, zPU, zPB, zPBv, zPTn, zCIf, zCCm, zCNl, zCNot, zCAnd, zCOr, zOAdd, zOSub, zOMul, zOAnd, zOOr, zOXor, zOShl, zOShr, zOUshr, zODiv, zORem, zOAddL, zOSubL, zOMulL, zOAndL, zOXorL, zORemL, zOShlL, zOShrL, zOCmpL, zOIald, zOLald, zOZald, zOAald, zOI2l, zOL2i, zONeg, zONegL, zOGet, zOAlen, zOScrL, zOScr, zOSv, zOScd, zOBln, zOBld, zOI2c, zLIn, zLI, zLLn, zLL, zLAn, zLA, zQPut, zTI, zTL, zTZ, zTA, ↓yEP, ↓yEU, ↓yEB, ↓yDC, ↓yDIf, ↓yDCm, ↓zDNot, ↓zDAnd, ↓zDOr, ↓zEBv, ↓zETn, ↓zAN, ↓zAC, ↓yKV, ↓yKS, ↓yKX, ↓yKAc, ↓yEK, ↓yENew, ↓yENa, ↓zSNop, ↓zSSeq, ↓zSBrk, ↓zSCnt, ↓zSSB, ↓zSSC, ↓zSSc, ↓zSIf, ↓zSIfE, ↓zSIfR, ↓zSIfB, ↓zSIfC, ↓zSDead, ↓ySSt, ↓ySInc, ↓ySPut, ↓ySPutC, ↓ySAst, ↓ySAstC, ↓ySK, ↓ySKp, ↓zSRv, ↓ySR, ↓ySLp, ↓ySWh, ↓ySSw, ob_s, ob_n, gd_t, gd_f, okx_r, xai_i, li0, lis, ll0, lls, la0, la0n, la0r, las, xs1_0, xs1_1, xs1_s, xs2_0, xs2_1, xs2_s, xisl_i, xisl_r, xisl_n, xisl_a, xisl_j, xisl_l, si_0, si_1, si_s, sl_0, sl_1, sl_s, sa_0, sa_1, sa_s, inc_, ii_, iz_, ll_, lz_, lsh_, lc_, i2l_, l2i_, neg_, negl_, if_, cm_, nl_r, nl_n, rI_i, rI_l, rI_r, rI_n, rI_a, rv_v, rv_i, rv_l, rv_b, rv_b1, rv_b0, rv_r, rv_n, rv_a, cat_i, cat_l, cat_r, cat_n, cat_b, rI_b, if_b, bi_, si2_, Option.bind_some, Option.bind_none, Option.map_some, Option.some.injEq, exists_eq_left, exists_eq_left', List.getElem?_cons_zero, List.getElem?_cons_succ, List.length_cons, List.length_nil, ↓reduceIte, true_and, and_true, Fin.isValue, Fin.val_zero, Fin.val_one, Fin.val_two, Fin.reduceFinMk, reduceCtorEq, exists_const, Bool.false_eq_true, Nat.reduceAdd, Nat.zero_add, Nat.reduceMul, Nat.reduceLeDiff, Nat.le_refl, exists_and_left, List.set_cons_zero, List.set_cons_succ, zb0, lT2, lT3, lT8, lT9, lT99, lT9999, lTc0, lTc1, lTm1, lTm9, lTm99, lTm9999, oI0, oI1, oI10, oI100, oI11, oI12, oI122, oI13, oI14, oI15, oI16, oI18, oI192, oI2, oI20, oI22, oI23, oI24, oI25, oI255, oI26, oI3, oI30, oI31, oI32, oI39, oI3951, oI4, oI40, oI400, oI4000, oI439, oI4390, oI45, oI48, oI5, oI50, oI57, oI576, oI6, oI600, oI64, oI7, oI72, oI8, oI878, oI9, oI96, oI97, oI99, oI999, oI9999, oIm1, oIm2, oIm4, oIm5, oIm6, oIm9, oIm99, zb0, zb1, zb2, zb3, bI_ne, bI_eq, iz_n, rem_n, div_n, af_d, kp_d, fin3, isr_r, isr_n, isr_a, Value.ref.injEq, Sum.inr.injEq, Prod.mk.injEq, nI_m, nI_a, xinb_n, clamp_n, xc_lt, xc_le, xc_gt, xc_ge, xc_eq, xc_ne, xz_eq, xz_ne, xz_lt, xz_ge, xz_gt, xz_le, pk_sub, Nat.reduceSub, decide_true, decide_false, eq_self, Nat.add_sub_cancel, dt_lt, df_lt, dt_le, df_le, dt_eq, df_eq, iff_self, Bool.not_true, Bool.not_false, Bool.and_true, Bool.true_and, Bool.and_false, Bool.false_and, false_and, and_false, xrf_n, xrf_s, vA_eq, vA_ne, vA_2, vL_1, vL_eq, vL_ne, vL_22, vP_1, vP_21, vP_eq, vP_ne, uA_uA, uL_uL, uP_uP, uA_sx, uL_sx, uP_sx, id_eq, uA_uL, uA_uP, uL_uP, xupd_e2, xupd_ne, xupd_xupd, ↓ex_withoutTimes, k255, lN_and, and255, lN_i]
theorem ex_timesOf (x k : Nat) (h : AH) (Q : Option Value → AH → Prop) (hx : x < 4611686018427387904) (hk : k < 6) : m_X10_timesOf.1 [.long (lN x), .int (nI k)] h Q ↔ Q (some (.int (nI (deT x (2 + k))))) h := by
  have hw := wz_lt hx
  have hl := wz_le x
  have s0 : deT x (2 + k) = (wzO x * 4294967296 - x) / pwC k % 32 := by
    rw [deT, if_neg (by omega), if_neg (by omega), Nat.add_sub_cancel_left]
  rw [s0]
  have s1 : xshlL (lN (wzO x)) (nI 32) = lN (wzO x * 4294967296) := by have := xL_shl (n := wzO x) (e := 32) (by omega) (by rw [p32]; omega); rwa [p32] at this
  have s2 : xshrL (lN (wzO x * 4294967296 - x)) (nI (5 * (5 - k))) = lN ((wzO x * 4294967296 - x) / pwC k) := by rw [← pw_dv hk]; exact xL_shr (by omega) (by omega)
  clear s0
  refine (xM_iff (g := g_X10_timesOf) (b := b_X10_timesOf) [.long (lN x), xjk, .int (nI k), xjk, xjk] (Nat.le_of_ble_eq_true rfl) rfl).trans ?_
  simp (disch := first | assumption | omega | decide | rfl | (simp (disch := omega) only [vA_eq, vA_ne, vA_2, vL_1, vL_eq, vL_ne, vL_22, vP_1, vP_21, vP_eq, vP_ne, xupd_ne, xupd_e2, not_false_eq_true, implies_true, *])) only [b_X10_timesOf, g_X10_timesOf, zPIc, zPBi, zPSi, zPLdc, zPLdcw, zPLd2, zPLc, zPNull, zPIn, zPI, zPLn, zPL, zPAn, zPA, zPStr, zPCs, zPU, zPB, zPBv, zPTn, zCIf, zCCm, zCNl, zCNot, zCAnd, zCOr, zOAdd, zOSub, zOMul, zOAnd, zOOr, zOXor, zOShl, zOShr, zOUshr, zODiv, zORem, zOAddL, zOSubL, zOMulL, zOAndL, zOXorL, zORemL, zOShlL, zOShrL, zOCmpL, zOIald, zOLald, zOZald, zOAald, zOI2l, zOL2i, zONeg, zONegL, zOGet, zOAlen, zOScrL, zOScr, zOSv, zOScd, zOBln, zOBld, zOI2c, zLIn, zLI, zLLn, zLL, zLAn, zLA, zQPut, zTI, zTL, zTZ, zTA, ↓yEP, ↓yEU, ↓yEB, ↓yDC, ↓yDIf, ↓yDCm, ↓zDNot, ↓zDAnd, ↓zDOr, ↓zEBv, ↓zETn, ↓zAN, ↓zAC, ↓yKV, ↓yKS, ↓yKX, ↓yKAc, ↓yEK, ↓yENew, ↓yENa, ↓zSNop, ↓zSSeq, ↓zSBrk, ↓zSCnt, ↓zSSB, ↓zSSC, ↓zSSc, ↓zSIf, ↓zSIfE, ↓zSIfR, ↓zSIfB, ↓zSIfC, ↓zSDead, ↓ySSt, ↓ySInc, ↓ySPut, ↓ySPutC, ↓ySAst, ↓ySAstC, ↓ySK, ↓ySKp, ↓zSRv, ↓ySR, ↓ySLp, ↓ySWh, ↓ySSw, ob_s, ob_n, gd_t, gd_f, okx_r, xai_i, li0, lis, ll0, lls, la0, la0n, la0r, las, xs1_0, xs1_1, xs1_s, xs2_0, xs2_1, xs2_s, xisl_i, xisl_r, xisl_n, xisl_a, xisl_j, xisl_l, si_0, si_1, si_s, sl_0, sl_1, sl_s, sa_0, sa_1, sa_s, inc_, ii_, iz_, ll_, lz_, lsh_, lc_, i2l_, l2i_, neg_, negl_, if_, cm_, nl_r, nl_n, rI_i, rI_l, rI_r, rI_n, rI_a, rv_v, rv_i, rv_l, rv_b, rv_b1, rv_b0, rv_r, rv_n, rv_a, cat_i, cat_l, cat_r, cat_n, cat_b, rI_b, if_b, bi_, si2_, Option.bind_some, Option.bind_none, Option.map_some, Option.some.injEq, exists_eq_left, exists_eq_left', List.getElem?_cons_zero, List.getElem?_cons_succ, List.length_cons, List.length_nil, ↓reduceIte, true_and, and_true, Fin.isValue, Fin.val_zero, Fin.val_one, Fin.val_two, Fin.reduceFinMk, reduceCtorEq, exists_const, Bool.false_eq_true, Nat.reduceAdd, Nat.zero_add, Nat.reduceMul, Nat.reduceLeDiff, Nat.le_refl, exists_and_left, List.set_cons_zero, List.set_cons_succ, zb0, lT2, lT3, lT8, lT9, lT99, lT9999, lTc0, lTc1, lTm1, lTm9, lTm99, lTm9999, oI0, oI1, oI10, oI100, oI11, oI12, oI122, oI13, oI14, oI15, oI16, oI18, oI192, oI2, oI20, oI22, oI23, oI24, oI25, oI255, oI26, oI3, oI30, oI31, oI32, oI39, oI3951, oI4, oI40, oI400, oI4000, oI439, oI4390, oI45, oI48, oI5, oI50, oI57, oI576, oI6, oI600, oI64, oI7, oI72, oI8, oI878, oI9, oI96, oI97, oI99, oI999, oI9999, oIm1, oIm2, oIm4, oIm5, oIm6, oIm9, oIm99, zb0, zb1, zb2, zb3, bI_ne, bI_eq, iz_n, rem_n, div_n, af_d, kp_d, fin3, isr_r, isr_n, isr_a, Value.ref.injEq, Sum.inr.injEq, Prod.mk.injEq, nI_m, nI_a, xinb_n, clamp_n, xc_lt, xc_le, xc_gt, xc_ge, xc_eq, xc_ne, xz_eq, xz_ne, xz_lt, xz_ge, xz_gt, xz_le, pk_sub, Nat.reduceSub, decide_true, decide_false, eq_self, Nat.add_sub_cancel, dt_lt, df_lt, dt_le, df_le, dt_eq, df_eq, iff_self, Bool.not_true, Bool.not_false, Bool.and_true, Bool.true_and, Bool.and_false, Bool.false_and, false_and, and_false, xrf_n, xrf_s, vA_eq, vA_ne, vA_2, vL_1, vL_eq, vL_ne, vL_22, vP_1, vP_21, vP_eq, vP_ne, uA_uA, uL_uL, uP_uP, uA_sx, uL_sx, uP_sx, id_eq, uA_uL, uA_uP, uL_uP, xupd_e2, xupd_ne, xupd_xupd, ↓ex_withoutTimes, s1, lN_sub, ↓ex_timesShift, s2, lN_i, nI_and, and31]
/-! a walk's columns make its element -/
def wZ (r : Nat → Int32) (i : Nat) : List Nat → Int
  | [] => 0
  | k :: w => wZ r i w + (r (15 + 4 * k + i)).toInt
theorem acZ_w {r : Nat → Int32} {i : Nat} {w : List Nat} {k : Nat} : ∀ n, acZ r (fun c => wcn c (k :: w)) i n = acZ r (fun c => wcn c w) i n + (if k < n then (r (15 + 4 * k + i)).toInt else 0) := by
  intro n
  induction n with
  | zero => show (0 : Int) = 0 + _; rw [if_neg (Nat.not_lt_zero _)]; rfl
  | succ n ih =>
    rw [acZ_s, acZ_s, ih]
    have e : wcn n (k :: w) = wcn n w + (if k = n then 1 else 0) := rfl
    rw [e]
    by_cases c : k = n
    · subst c
      rw [if_pos rfl, if_neg (Nat.lt_irrefl _), if_pos (Nat.lt_succ_self _), Int.natCast_add, Int.add_mul]
      simp [Int.add_assoc]
    · rw [if_neg c]
      by_cases c2 : k < n
      · rw [if_pos c2, if_pos (by omega)]; simp [Int.add_assoc, Int.add_comm, Int.add_left_comm]
      · rw [if_neg c2, if_neg (by omega)]; simp
theorem acZ_wZ {r : Nat → Int32} {i n : Nat} : ∀ w : List Nat, (∀ k ∈ w, k < n) → acZ r (fun c => wcn c w) i n = wZ r i w
  | [], _ => by
    have : ∀ n, acZ r (fun c => wcn c []) i n = 0 := by
      intro n
      induction n with
      | zero => rfl
      | succ n ih => rw [acZ_s, ih]; show 0 + ((0 : Nat) : Int) * _ = 0; simp
    exact this n
  | k :: w, h => by
    rw [acZ_w, if_pos (h k List.mem_cons_self), acZ_wZ w (fun j hj => h j (List.mem_cons_of_mem _ hj))]; rfl
theorem el_000 {r : Nat → Int32} (hb : bsOK r) (h0 : 0 < szN r) : elN r 0 0 0 = 0 := (elW_ac hb h0 (fun _ => 0) 0).symm
theorem wpr_wZ {r : Nat → Int32} (hb : bsOK r) (h0 : 0 < szN r) : ∀ w : List Nat, wpr (sNr r) (mdN r) w = elN r (wZ r 0 w) (wZ r 1 w) (wZ r 2 w)
  | [] => (el_000 hb h0).symm
  | k :: w => by
    rw [wpr, wpr_wZ hb h0 w, mdN, sN_hom hb h0]; rfl
theorem wk_goal {r : Nat → Int32} {m nc nk : Nat} (hr : RW r m nc nk) (h0 : 0 < szN r) {e x : Nat} (hx : wkF r nc e = some x) : elW (sNr r) (mdN r) (fun c => deT x (2 + c)) nc = e := by
  have hb := hr.1.1
  have hL := sN_law hb h0
  have h6 := hr.1.2.2.2.1
  have hI := lbR_inv (wt := wtW (ctN r)) hL h0 (fun k (_ : k < nc) => md_lt hb h0 k) (szN r)
  obtain ⟨-, w, hw⟩ := hI e x hx
  have hl := wGd_len hL h0 (fun k (_ : k < nc) => md_lt hb h0 k) hw
  have hD := szN_le r
  obtain ⟨g1, g2, g3, -, -⟩ := hw
  have de : ∀ c, c < nc → deT x (2 + c) = wcn c w := fun c hc => by
    rw [← g3, de_w h6 (fun c hc => (hr.2.2.2.2.1 c hc).2) g1 (by omega) (by omega), twT, if_neg (by omega), if_neg (by omega), Nat.add_sub_cancel_left]
  have cg : ∀ n, n ≤ nc → elW (sNr r) (mdN r) (fun c => deT x (2 + c)) n = elW (sNr r) (mdN r) (fun c => wcn c w) n := by
    intro n
    induction n with
    | zero => exact fun _ => rfl
    | succ n ih => intro hn; rw [elW_s, elW_s, ih (by omega), de n (by omega)]
  rw [cg nc (Nat.le_refl _), elW_ac hb h0, acZ_wZ w g1, acZ_wZ w g1, acZ_wZ w g1, ← wpr_wZ hb h0, g2]
theorem wk_b {r : Nat → Int32} {m nc nk : Nat} (hr : RW r m nc nk) (h0 : 0 < szN r) {e x : Nat} (hx : wkF r nc e = some x) : x ≤ 4600000000000000 := by
  have hb := hr.1.1
  have hI := lbR_inv (wt := wtW (ctN r)) (sN_law hb h0) h0 (fun k (_ : k < nc) => md_lt hb h0 k) (szN r)
  have := lInv_b (vb := 200000000000000) (sN_law hb h0) h0 (szN_le r) (fun k _ => md_lt hb h0 k) (fun k hk => by
    have := (hr.2.2.2.2.1 k hk).2
    have := pwC_le k
    rw [wtW]; omega) hI hx
  omega
