/-! a judge's rows -/
theorem xremL_toInt {a b : Int64} (hb : ¬ b = 0) : (xremL a b).toInt = a.toInt.tmod b.toInt := by
  have hb' : b.toInt ≠ 0 := fun e => hb (Int64.toInt_inj.mp e)
  have e1 : a.toInt - a.toInt.tdiv b.toInt * b.toInt = a.toInt.tmod b.toInt := by
    have := Int.mul_tdiv_add_tmod a.toInt b.toInt
    have := Int.mul_comm b.toInt (a.toInt.tdiv b.toInt)
    omega
  have e2 : (a.toInt.tmod b.toInt).natAbs = a.toInt.natAbs % b.toInt.natAbs := Int.natAbs_tmod _ _
  have e3 : a.toInt.natAbs % b.toInt.natAbs < b.toInt.natAbs := Nat.mod_lt _ (by omega)
  have h1 := Int64.le_toInt b
  have h2 := Int64.toInt_lt b
  rw [xremL, Int64.toInt_sub, Int64.toInt_mul, Int64.toInt_div, Int.bmod_mul_bmod, Int.sub_bmod_bmod, e1]
  exact Int.bmod_eq_of_le (by omega) (by omega)
theorem xor_negL {a b : Int64} (hb : ¬ b < 0) : (a ^^^ b < 0) ↔ a < 0 := by
  simp only [Int64.lt_iff_toBitVec_slt, Int64.toBitVec_xor, BitVec.slt_zero_eq_msb, Int64.toBitVec_zero, BitVec.msb_xor] at hb ⊢
  simp only [Bool.not_eq_true] at hb
  rw [hb, Bool.xor_false]
theorem e_floorModL (a : Int64) (P n : Nat) (h : AH) (Q : Option Value → AH → Prop) (hP : 0 < P) (hP2 : P < 2147483648) (ha : a.toInt % (P : Int) = n) : m_J_Math_floorModL.1 [.long a, .long (lN P)] h Q ↔ Q (some (.long (lN n))) h := by
  have tP : (lN P).toInt = P := lN_big (by omega)
  have b0 : ¬ lN P = 0 := fun z => by have := congrArg Int64.toInt z; rw [tP] at this; have e : (0 : Int64).toInt = 0 := rfl; omega
  have bn : ¬ lN P < 0 := fun z => by have := Int64.lt_iff_toInt_lt.mp z; rw [tP] at this; have e : (0 : Int64).toInt = 0 := rfl; omega
  have hr := xremL_toInt (a := a) b0
  rw [tP] at hr
  have hx := xor_negL (a := a) bn
  have hn : n < P := by have := Int.emod_lt_of_pos a.toInt (show (0 : Int) < P by omega); omega
  have z64 : (0 : Int64).toInt = 0 := rfl
  have l0 : Int64.ofNat 0 = 0 := rfl
  have lc0 : ∀ x : Int64, xcm .lt (lg_cmp x 0) 0 = decide (x < 0) := fun x => by simp only [xcm, lg_cmp_lt]
  have ln0 : ∀ x : Int64, xcm .ne (lg_cmp x 0) 0 = !decide (x = 0) := fun x => by
    show (!decide (lg_cmp x 0 = 0)) = _
    congr 1
    rw [decide_eq_decide, lg_cmp_eq]
  refine (xM_iff (g := g_J_Math_floorModL) (b := b_J_Math_floorModL) [.long a, xjk, .long (lN P), xjk, xjk, xjk] (Nat.le_of_ble_eq_true rfl) rfl).trans ?_
  have em := Int.tmod_eq_emod (a := a.toInt) (b := (P : Int))
  by_cases c : a < 0
  · have d1 : xcm .lt (lg_cmp (a ^^^ lN P) 0) 0 = true := by rw [lc0]; exact decide_eq_true (hx.mpr c)
    have ca := Int64.lt_iff_toInt_lt.mp c
    rw [z64] at ca
    have tn := Int.neg_tmod a.toInt (P : Int)
    have t0 := Int.tmod_nonneg (a := -a.toInt) (P : Int) (by omega)
    by_cases c2 : xremL a (lN P) = 0
    · have d2 : xcm .ne (lg_cmp (xremL a (lN P)) 0) 0 = false := by rw [ln0, c2]; rfl
      have d3 : xremL a (lN P) = lN n := by
        apply Int64.toInt_inj.mp
        rw [lN_big (by omega)]
        have q := hr
        rw [c2, z64] at q
        have dv : (P : Int) ∣ a.toInt := Int.dvd_of_tmod_eq_zero q.symm
        have := Int.emod_eq_zero_of_dvd dv
        rw [c2, z64]; omega
      rw [d3] at d2
      simp (disch := first | assumption | omega | decide | rfl | (simp (disch := omega) only [vA_eq, vA_ne, vA_2, vL_1, vL_eq, vL_ne, vL_22, vP_1, vP_21, vP_eq, vP_ne, xupd_ne, xupd_e2, not_false_eq_true, implies_true, *])) only [b_J_Math_floorModL, g_J_Math_floorModL, zPIc, zPBi, zPSi, zPLdc, zPLdcw, zPLd2, zPLc, zPNull, zPIn, zPI, zPLn, zPL, zPAn, zPA, zPStr, zPCs, zPU, zPB, zPBv, zPTn, zCIf, zCCm, zCNl, zCNot, zCAnd, zCOr, zOAdd, zOSub, zOMul, zOAnd, zOOr, zOXor, zOShl, zOShr, zOUshr, zODiv, zORem, zOAddL, zOSubL, zOMulL, zOAndL, zOXorL, zORemL, zOShlL, zOShrL, zOCmpL, zOIald, zOLald, zOZald, zOAald, zOI2l, zOL2i, zONeg, zONegL, zOGet, zOAlen, zOScrL, zOScr, zOSv, zOScd, zOBln, zOBld, zOI2c, zLIn, zLI, zLLn, zLL, zLAn, zLA, zQPut, zTI, zTL, zTZ, zTA, ↓yEP, ↓yEU, ↓yEB, ↓yDC, ↓yDIf, ↓yDCm, ↓zDNot, ↓zDAnd, ↓zDOr, ↓zEBv, ↓zETn, ↓zAN, ↓zAC, ↓yKV, ↓yKS, ↓yKX, ↓yKAc, ↓yEK, ↓yENew, ↓yENa, ↓zSNop, ↓zSSeq, ↓zSBrk, ↓zSCnt, ↓zSSB, ↓zSSC, ↓zSSc, ↓zSIf, ↓zSIfE, ↓zSIfR, ↓zSIfB, ↓zSIfC, ↓zSDead, ↓ySSt, ↓ySInc, ↓ySPut, ↓ySPutC, ↓ySAst, ↓ySAstC, ↓ySK, ↓ySKp, ↓zSRv, ↓ySR, ↓ySLp, ↓ySWh, ↓ySSw, ob_s, ob_n, gd_t, gd_f, okx_r, xai_i, li0, lis, ll0, lls, la0, la0n, la0r, las, xs1_0, xs1_1, xs1_s, xs2_0, xs2_1, xs2_s, xisl_i, xisl_r, xisl_n, xisl_a, xisl_j, xisl_l, si_0, si_1, si_s, sl_0, sl_1, sl_s, sa_0, sa_1, sa_s, inc_, ii_, iz_, ll_, lz_, lsh_, lc_, i2l_, l2i_, neg_, negl_, if_, cm_, nl_r, nl_n, rI_i, rI_l, rI_r, rI_n, rI_a, rv_v, rv_i, rv_l, rv_b, rv_b1, rv_b0, rv_r, rv_n, rv_a, cat_i, cat_l, cat_r, cat_n, cat_b, rI_b, if_b, bi_, si2_, Option.bind_some, Option.bind_none, Option.map_some, Option.some.injEq, exists_eq_left, exists_eq_left', List.getElem?_cons_zero, List.getElem?_cons_succ, List.length_cons, List.length_nil, ↓reduceIte, true_and, and_true, Fin.isValue, Fin.val_zero, Fin.val_one, Fin.val_two, Fin.reduceFinMk, reduceCtorEq, exists_const, Bool.false_eq_true, Nat.reduceAdd, Nat.zero_add, Nat.reduceMul, Nat.reduceLeDiff, Nat.le_refl, exists_and_left, List.set_cons_zero, List.set_cons_succ, zb0, lT2, lT3, lT8, lT9, lT99, lT9999, lTc0, lTc1, lTm1, lTm9, lTm99, lTm9999, oI0, oI1, oI10, oI100, oI11, oI12, oI122, oI13, oI14, oI15, oI16, oI18, oI192, oI2, oI20, oI22, oI23, oI24, oI25, oI255, oI26, oI3, oI30, oI31, oI32, oI39, oI3951, oI4, oI40, oI400, oI4000, oI439, oI4390, oI45, oI48, oI5, oI50, oI57, oI576, oI6, oI600, oI64, oI7, oI72, oI8, oI878, oI9, oI96, oI97, oI99, oI999, oI9999, oIm1, oIm2, oIm4, oIm5, oIm6, oIm9, oIm99, zb0, zb1, zb2, zb3, bI_ne, bI_eq, iz_n, rem_n, div_n, af_d, kp_d, fin3, isr_r, isr_n, isr_a, Value.ref.injEq, Sum.inr.injEq, Prod.mk.injEq, nI_m, nI_a, xinb_n, clamp_n, xc_lt, xc_le, xc_gt, xc_ge, xc_eq, xc_ne, xz_eq, xz_ne, xz_lt, xz_ge, xz_gt, xz_le, pk_sub, Nat.reduceSub, decide_true, decide_false, eq_self, Nat.add_sub_cancel, dt_lt, df_lt, dt_le, df_le, dt_eq, df_eq, iff_self, Bool.not_true, Bool.not_false, Bool.and_true, Bool.true_and, Bool.and_false, Bool.false_and, false_and, and_false, xrf_n, xrf_s, sa_0r, sa_1r, vA_eq, vA_ne, vA_2, vL_1, vL_eq, vL_ne, vL_22, vP_1, vP_21, vP_eq, vP_ne, uA_uA, uL_uL, uP_uP, uA_sx, uL_sx, uP_sx, id_eq, uA_uL, uA_uP, uL_uP, xupd_e2, xupd_ne, xupd_xupd, lz_, l0, d1, d2, d3]
    · have d2 : xcm .ne (lg_cmp (xremL a (lN P)) 0) 0 = true := by rw [ln0, decide_eq_false c2]; rfl
      have d3 : xremL a (lN P) + lN P = lN n := by
        apply Int64.toInt_inj.mp
        have hne : (xremL a (lN P)).toInt ≠ 0 := fun z => c2 (Int64.toInt_inj.mp (by rw [z]; rfl))
        have hlt := Int.emod_lt_of_pos a.toInt (show (0 : Int) < P by omega)
        have hnn := Int.emod_nonneg a.toInt (show (P : Int) ≠ 0 by omega)
        have hv : (xremL a (lN P)).toInt = n - P := by
          rw [hr] at hne ⊢
          have e1 := Int.mul_tdiv_add_tmod a.toInt P
          have e2 := Int.mul_ediv_add_emod a.toInt P
          have k1 : (a.toInt.tmod P).natAbs = a.toInt.natAbs % (P : Int).natAbs := Int.natAbs_tmod _ _
          have k2 : a.toInt.natAbs % (P : Int).natAbs < (P : Int).natAbs := Nat.mod_lt _ (by omega)
          have dv : (P : Int) ∣ (a.toInt % P - a.toInt.tmod P) := ⟨a.toInt.tdiv P - a.toInt / P, by rw [Int.mul_sub]; omega⟩
          obtain ⟨w, hw⟩ := dv
          have w1 : w = 1 := by
            have hb1 : 0 < (P : Int) * w := by omega
            have hb2 : (P : Int) * w < P * 2 := by omega
            have a1 : 0 < w := by
              apply Classical.byContradiction
              intro z
              have := Int.mul_le_mul_of_nonneg_left (c := (P : Int)) (show w ≤ 0 by omega) (by omega)
              omega
            have a2 : w < 2 := by
              apply Classical.byContradiction
              intro z
              have := Int.mul_le_mul_of_nonneg_left (c := (P : Int)) (show 2 ≤ w by omega) (by omega)
              omega
            omega
          rw [w1] at hw
          omega
        rw [Int64.toInt_add, hv, tP, lN_big (by omega)]
        rw [show (n : Int) - P + P = n by omega]
        exact Int.bmod_eq_of_le (by omega) (by omega)
      simp (disch := first | assumption | omega | decide | rfl | (simp (disch := omega) only [vA_eq, vA_ne, vA_2, vL_1, vL_eq, vL_ne, vL_22, vP_1, vP_21, vP_eq, vP_ne, xupd_ne, xupd_e2, not_false_eq_true, implies_true, *])) only [b_J_Math_floorModL, g_J_Math_floorModL, zPIc, zPBi, zPSi, zPLdc, zPLdcw, zPLd2, zPLc, zPNull, zPIn, zPI, zPLn, zPL, zPAn, zPA, zPStr, zPCs, zPU, zPB, zPBv, zPTn, zCIf, zCCm, zCNl, zCNot, zCAnd, zCOr, zOAdd, zOSub, zOMul, zOAnd, zOOr, zOXor, zOShl, zOShr, zOUshr, zODiv, zORem, zOAddL, zOSubL, zOMulL, zOAndL, zOXorL, zORemL, zOShlL, zOShrL, zOCmpL, zOIald, zOLald, zOZald, zOAald, zOI2l, zOL2i, zONeg, zONegL, zOGet, zOAlen, zOScrL, zOScr, zOSv, zOScd, zOBln, zOBld, zOI2c, zLIn, zLI, zLLn, zLL, zLAn, zLA, zQPut, zTI, zTL, zTZ, zTA, ↓yEP, ↓yEU, ↓yEB, ↓yDC, ↓yDIf, ↓yDCm, ↓zDNot, ↓zDAnd, ↓zDOr, ↓zEBv, ↓zETn, ↓zAN, ↓zAC, ↓yKV, ↓yKS, ↓yKX, ↓yKAc, ↓yEK, ↓yENew, ↓yENa, ↓zSNop, ↓zSSeq, ↓zSBrk, ↓zSCnt, ↓zSSB, ↓zSSC, ↓zSSc, ↓zSIf, ↓zSIfE, ↓zSIfR, ↓zSIfB, ↓zSIfC, ↓zSDead, ↓ySSt, ↓ySInc, ↓ySPut, ↓ySPutC, ↓ySAst, ↓ySAstC, ↓ySK, ↓ySKp, ↓zSRv, ↓ySR, ↓ySLp, ↓ySWh, ↓ySSw, ob_s, ob_n, gd_t, gd_f, okx_r, xai_i, li0, lis, ll0, lls, la0, la0n, la0r, las, xs1_0, xs1_1, xs1_s, xs2_0, xs2_1, xs2_s, xisl_i, xisl_r, xisl_n, xisl_a, xisl_j, xisl_l, si_0, si_1, si_s, sl_0, sl_1, sl_s, sa_0, sa_1, sa_s, inc_, ii_, iz_, ll_, lz_, lsh_, lc_, i2l_, l2i_, neg_, negl_, if_, cm_, nl_r, nl_n, rI_i, rI_l, rI_r, rI_n, rI_a, rv_v, rv_i, rv_l, rv_b, rv_b1, rv_b0, rv_r, rv_n, rv_a, cat_i, cat_l, cat_r, cat_n, cat_b, rI_b, if_b, bi_, si2_, Option.bind_some, Option.bind_none, Option.map_some, Option.some.injEq, exists_eq_left, exists_eq_left', List.getElem?_cons_zero, List.getElem?_cons_succ, List.length_cons, List.length_nil, ↓reduceIte, true_and, and_true, Fin.isValue, Fin.val_zero, Fin.val_one, Fin.val_two, Fin.reduceFinMk, reduceCtorEq, exists_const, Bool.false_eq_true, Nat.reduceAdd, Nat.zero_add, Nat.reduceMul, Nat.reduceLeDiff, Nat.le_refl, exists_and_left, List.set_cons_zero, List.set_cons_succ, zb0, lT2, lT3, lT8, lT9, lT99, lT9999, lTc0, lTc1, lTm1, lTm9, lTm99, lTm9999, oI0, oI1, oI10, oI100, oI11, oI12, oI122, oI13, oI14, oI15, oI16, oI18, oI192, oI2, oI20, oI22, oI23, oI24, oI25, oI255, oI26, oI3, oI30, oI31, oI32, oI39, oI3951, oI4, oI40, oI400, oI4000, oI439, oI4390, oI45, oI48, oI5, oI50, oI57, oI576, oI6, oI600, oI64, oI7, oI72, oI8, oI878, oI9, oI96, oI97, oI99, oI999, oI9999, oIm1, oIm2, oIm4, oIm5, oIm6, oIm9, oIm99, zb0, zb1, zb2, zb3, bI_ne, bI_eq, iz_n, rem_n, div_n, af_d, kp_d, fin3, isr_r, isr_n, isr_a, Value.ref.injEq, Sum.inr.injEq, Prod.mk.injEq, nI_m, nI_a, xinb_n, clamp_n, xc_lt, xc_le, xc_gt, xc_ge, xc_eq, xc_ne, xz_eq, xz_ne, xz_lt, xz_ge, xz_gt, xz_le, pk_sub, Nat.reduceSub, decide_true, decide_false, eq_self, Nat.add_sub_cancel, dt_lt, df_lt, dt_le, df_le, dt_eq, df_eq, iff_self, Bool.not_true, Bool.not_false, Bool.and_true, Bool.true_and, Bool.and_false, Bool.false_and, false_and, and_false, xrf_n, xrf_s, sa_0r, sa_1r, vA_eq, vA_ne, vA_2, vL_1, vL_eq, vL_ne, vL_22, vP_1, vP_21, vP_eq, vP_ne, uA_uA, uL_uL, uP_uP, uA_sx, uL_sx, uP_sx, id_eq, uA_uL, uA_uP, uL_uP, xupd_e2, xupd_ne, xupd_xupd, lz_, l0, d1, d2, d3]
  · have d1 : xcm .lt (lg_cmp (a ^^^ lN P) 0) 0 = false := by rw [lc0]; exact decide_eq_false (fun z => c (hx.mp z))
    have ca : ¬ a.toInt < 0 := fun z => c (Int64.lt_iff_toInt_lt.mpr (by rw [z64]; exact z))
    have d3 : xremL a (lN P) = lN n := by
      apply Int64.toInt_inj.mp
      rw [lN_big (by omega), hr, Int.tmod_eq_emod_of_nonneg (by omega)]; exact ha
    simp (disch := first | assumption | omega | decide | rfl | (simp (disch := omega) only [vA_eq, vA_ne, vA_2, vL_1, vL_eq, vL_ne, vL_22, vP_1, vP_21, vP_eq, vP_ne, xupd_ne, xupd_e2, not_false_eq_true, implies_true, *])) only [b_J_Math_floorModL, g_J_Math_floorModL, zPIc, zPBi, zPSi, zPLdc, zPLdcw, zPLd2, zPLc, zPNull, zPIn, zPI, zPLn, zPL, zPAn, zPA, zPStr, zPCs, zPU, zPB, zPBv, zPTn, zCIf, zCCm, zCNl, zCNot, zCAnd, zCOr, zOAdd, zOSub, zOMul, zOAnd, zOOr, zOXor, zOShl, zOShr, zOUshr, zODiv, zORem, zOAddL, zOSubL, zOMulL, zOAndL, zOXorL, zORemL, zOShlL, zOShrL, zOCmpL, zOIald, zOLald, zOZald, zOAald, zOI2l, zOL2i, zONeg, zONegL, zOGet, zOAlen, zOScrL, zOScr, zOSv, zOScd, zOBln, zOBld, zOI2c, zLIn, zLI, zLLn, zLL, zLAn, zLA, zQPut, zTI, zTL, zTZ, zTA, ↓yEP, ↓yEU, ↓yEB, ↓yDC, ↓yDIf, ↓yDCm, ↓zDNot, ↓zDAnd, ↓zDOr, ↓zEBv, ↓zETn, ↓zAN, ↓zAC, ↓yKV, ↓yKS, ↓yKX, ↓yKAc, ↓yEK, ↓yENew, ↓yENa, ↓zSNop, ↓zSSeq, ↓zSBrk, ↓zSCnt, ↓zSSB, ↓zSSC, ↓zSSc, ↓zSIf, ↓zSIfE, ↓zSIfR, ↓zSIfB, ↓zSIfC, ↓zSDead, ↓ySSt, ↓ySInc, ↓ySPut, ↓ySPutC, ↓ySAst, ↓ySAstC, ↓ySK, ↓ySKp, ↓zSRv, ↓ySR, ↓ySLp, ↓ySWh, ↓ySSw, ob_s, ob_n, gd_t, gd_f, okx_r, xai_i, li0, lis, ll0, lls, la0, la0n, la0r, las, xs1_0, xs1_1, xs1_s, xs2_0, xs2_1, xs2_s, xisl_i, xisl_r, xisl_n, xisl_a, xisl_j, xisl_l, si_0, si_1, si_s, sl_0, sl_1, sl_s, sa_0, sa_1, sa_s, inc_, ii_, iz_, ll_, lz_, lsh_, lc_, i2l_, l2i_, neg_, negl_, if_, cm_, nl_r, nl_n, rI_i, rI_l, rI_r, rI_n, rI_a, rv_v, rv_i, rv_l, rv_b, rv_b1, rv_b0, rv_r, rv_n, rv_a, cat_i, cat_l, cat_r, cat_n, cat_b, rI_b, if_b, bi_, si2_, Option.bind_some, Option.bind_none, Option.map_some, Option.some.injEq, exists_eq_left, exists_eq_left', List.getElem?_cons_zero, List.getElem?_cons_succ, List.length_cons, List.length_nil, ↓reduceIte, true_and, and_true, Fin.isValue, Fin.val_zero, Fin.val_one, Fin.val_two, Fin.reduceFinMk, reduceCtorEq, exists_const, Bool.false_eq_true, Nat.reduceAdd, Nat.zero_add, Nat.reduceMul, Nat.reduceLeDiff, Nat.le_refl, exists_and_left, List.set_cons_zero, List.set_cons_succ, zb0, lT2, lT3, lT8, lT9, lT99, lT9999, lTc0, lTc1, lTm1, lTm9, lTm99, lTm9999, oI0, oI1, oI10, oI100, oI11, oI12, oI122, oI13, oI14, oI15, oI16, oI18, oI192, oI2, oI20, oI22, oI23, oI24, oI25, oI255, oI26, oI3, oI30, oI31, oI32, oI39, oI3951, oI4, oI40, oI400, oI4000, oI439, oI4390, oI45, oI48, oI5, oI50, oI57, oI576, oI6, oI600, oI64, oI7, oI72, oI8, oI878, oI9, oI96, oI97, oI99, oI999, oI9999, oIm1, oIm2, oIm4, oIm5, oIm6, oIm9, oIm99, zb0, zb1, zb2, zb3, bI_ne, bI_eq, iz_n, rem_n, div_n, af_d, kp_d, fin3, isr_r, isr_n, isr_a, Value.ref.injEq, Sum.inr.injEq, Prod.mk.injEq, nI_m, nI_a, xinb_n, clamp_n, xc_lt, xc_le, xc_gt, xc_ge, xc_eq, xc_ne, xz_eq, xz_ne, xz_lt, xz_ge, xz_gt, xz_le, pk_sub, Nat.reduceSub, decide_true, decide_false, eq_self, Nat.add_sub_cancel, dt_lt, df_lt, dt_le, df_le, dt_eq, df_eq, iff_self, Bool.not_true, Bool.not_false, Bool.and_true, Bool.true_and, Bool.and_false, Bool.false_and, false_and, and_false, xrf_n, xrf_s, sa_0r, sa_1r, vA_eq, vA_ne, vA_2, vL_1, vL_eq, vL_ne, vL_22, vP_1, vP_21, vP_eq, vP_ne, uA_uA, uL_uL, uP_uP, uA_sx, uL_sx, uP_sx, id_eq, uA_uL, uA_uP, uL_uP, xupd_e2, xupd_ne, xupd_xupd, lz_, l0, d1, d3]
