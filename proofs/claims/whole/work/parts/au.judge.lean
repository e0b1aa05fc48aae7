/-! a pair's equation -/
theorem ldR_all {led : Nat → Nat → Nat} {il : Nat → Bool} {D : Nat} : ∀ m k E, (∀ j, k ≤ j → j < k + m → il j = true) → ∃ E', ldR led il D m k E = (none, E') := by
  intro m
  induction m with
  | zero => intro k E _; exact ⟨E, rfl⟩
  | succ m ih =>
    intro k E h
    by_cases c : E k = 0
    · rw [ldR_z c]; exact ih (k + 1) E (fun j h1 h2 => h j (by omega) (by omega))
    · rw [ldR_l c (h k (Nat.le_refl _) (by omega))]; exact ih (k + 1) _ (fun j h1 h2 => h j (by omega) (by omega))
theorem ldR_some {led : Nat → Nat → Nat} {il : Nat → Bool} {D : Nat} : ∀ m k E j E', ldR led il D m k E = (some j, E') → k ≤ j ∧ j < k + m ∧ il j = false := by
  intro m
  induction m with
  | zero => intro k E j E' h; cases h
  | succ m ih =>
    intro k E j E' h
    by_cases c : E k = 0
    · rw [ldR_z c] at h
      have := ih _ _ _ _ h
      exact ⟨by omega, by omega, this.2.2⟩
    · cases cl : il k
      · rw [ldR_n c cl] at h
        cases h
        exact ⟨Nat.le_refl _, by omega, cl⟩
      · rw [ldR_l c cl] at h
        have := ih _ _ _ _ h
        exact ⟨by omega, by omega, this.2.2⟩
theorem cnN_lx {f : Nat → Bool} : ∀ n, cnN f n ≤ n := by
  intro n
  induction n with
  | zero => exact Nat.le_refl _
  | succ n ih =>
    have st : cnN f (n + 1) = if f n = true then cnN f n + 1 else cnN f n := rfl
    rw [st]; split <;> omega
/-- how many rows lead -/
def rkC (D : Nat) (s : RK) : Prop := s.2.2 = cnN (fun k => s.2.1 (k + 1)) (D - 1)
theorem cn_all {f : Nat → Bool} : ∀ n, n ≤ cnN f n → ∀ k, k < n → f k = true := by
  intro n
  induction n with
  | zero => intro _ k hk; omega
  | succ n ih =>
    intro h k hk
    have st : cnN f (n + 1) = if f n = true then cnN f n + 1 else cnN f n := rfl
    have := cnN_lx (f := f) n
    rw [st] at h
    split at h
    · next hf =>
      by_cases e : k = n
      · rw [e]; exact hf
      · exact ih (by omega) k (by omega)
    · omega
theorem cn_upd {f : Nat → Bool} {j : Nat} (hj : f j = false) : ∀ n, cnN (xupd f j true) n = cnN f n + (if j < n then 1 else 0) := by
  intro n
  induction n with
  | zero => rw [if_neg (Nat.not_lt_zero _)]; rfl
  | succ n ih =>
    have st : ∀ g : Nat → Bool, cnN g (n + 1) = if g n = true then cnN g n + 1 else cnN g n := fun _ => rfl
    rw [st, st, ih]
    by_cases e : n = j
    · subst e
      rw [xupd_eq, if_pos rfl, if_neg (Nat.lt_irrefl _), if_pos (Nat.lt_succ_self _), if_neg (by rw [hj]; exact Bool.false_ne_true)]
    · rw [xupd_ne e]
      by_cases c : j < n
      · rw [if_pos c, if_pos (show j < n + 1 by omega)]; split <;> omega
      · rw [if_neg c, if_neg (show ¬ j < n + 1 by omega)]; split <;> omega
theorem rkC_P {n0 D : Nat} {E : Nat → Nat} {s : RK} (h : rkC D s) (h1 : 1 ≤ D) : rkC D (rkP n0 D E s) := by
  cases e : ldR s.1 s.2.1 D (D - 1) 1 E with
  | mk o E' =>
    cases o with
    | none => rw [rkP_n e]; exact h
    | some k =>
      obtain ⟨a1, a2, a3⟩ := ldR_some _ _ _ _ _ e
      rw [rkP_s e]
      show s.2.2 + 1 = cnN (fun j => xupd s.2.1 k true (j + 1)) (D - 1)
      have ef : (fun j => xupd s.2.1 k true (j + 1)) = xupd (fun j => s.2.1 (j + 1)) (k - 1) true := by
        funext j
        by_cases c : j = k - 1
        · rw [c, xupd_eq, xupd_e2 _ _ (by omega)]
        · rw [xupd_ne c, xupd_ne (by omega)]
      rw [ef, cn_upd (by show s.2.1 (k - 1 + 1) = false; rw [show k - 1 + 1 = k by omega]; exact a3), if_pos (by omega), ← h]
theorem rk_full {n0 D : Nat} {E : Nat → Nat} {s : RK} (h : rkC D s) (h1 : 1 ≤ D) (hf : D - 1 ≤ s.2.2) : rkP n0 D E s = s := by
  rw [h] at hf
  have al := cn_all _ hf
  obtain ⟨E', e⟩ := ldR_all (led := s.1) (il := s.2.1) (D := D) (D - 1) 1 E (fun j h2 h3 => by have := al (j - 1) (by omega); rwa [show j - 1 + 1 = j by omega] at this)
  exact rkP_n e
theorem fil_at {α : Type} (f : Nat → α) (v : α) {n i : Nat} (h : i < n) : fil f v n i = v := if_pos h
/-- a pair's numbers -/
def pX (a b d j : Nat) : Nat := (if j = a then 1 else 0) + (if j = b then 1 else 0) + (if j = d then 1000002 else 0)
theorem pX_E {S : Nat → Nat → Nat} {a b j : Nat} (ha : 1 ≤ a) (hb : 1 ≤ b) (hj : 1 ≤ j) : pX a b (S a b) j % 1000003 = eqP S a b j ∧ eqP S a b j < 1000003 ∧ pX a b (S a b) j ≤ 2000006 := by
  have e1 : ∀ k, adE (fun _ => 0) a 1 k = if k = a then 1 else 0 := fun k => by
    rw [adE]
    by_cases c : k = a
    · rw [if_pos ⟨c, ha⟩, if_pos c]
    · rw [if_neg (fun z => c z.1), if_neg c]
  have e2 : ∀ k, adE (adE (fun _ => 0) a 1) b 1 k = (if k = a then 1 else 0) + (if k = b then 1 else 0) := fun k => by
    rw [adE]
    by_cases c : k = b
    · subst c
      rw [if_pos ⟨rfl, hb⟩, e1, if_pos rfl]
      by_cases c2 : k = a
      · rw [if_pos c2]
      · rw [if_neg c2]
    · rw [if_neg (fun z => c z.1), e1, if_neg c, Nat.add_zero]
  have e3 : eqP S a b j = if j = S a b then ((if j = a then 1 else 0) + (if j = b then 1 else 0) + 1000002) % 1000003 else (if j = a then 1 else 0) + (if j = b then 1 else 0) := by
    rw [eqP, adE]
    by_cases c : j = S a b
    · rw [if_pos ⟨c, by omega⟩, if_pos c, e2, ← c]
    · rw [if_neg (fun z => c z.1), if_neg c, e2]
  have bd : (if j = a then 1 else 0) + (if j = b then 1 else 0) ≤ 2 := by split <;> split <;> omega
  rw [e3, pX]
  generalize (if j = a then 1 else 0) + (if j = b then 1 else 0) = A at *
  by_cases c : j = S a b
  · rw [if_pos c, if_pos c]
    exact ⟨rfl, Nat.mod_lt _ (by omega), by omega⟩
  · rw [if_neg c, if_neg c, Nat.add_zero]
    exact ⟨Nat.mod_eq_of_lt (by omega), by omega, by omega⟩
theorem kPmV : Value.long (1000002 : Int64) = Value.long (lN 1000002) := rfl
theorem x_addPair {n0 D a b : Nat} {S : Nat → Nat → Nat} {s : RK} {h : AH} {c : XC} {τ : XS} {Q : Option Value → AH → Prop} (hn0 : n0 + 1 = 1000002) (hL : gLaw D S) (hD : D ≤ 24) (ha : 1 ≤ a) (haD : a < D) (hb : 1 ≤ b) (hbD : b < D) (hs : rkX D s (τ.2.1 93)) (hC : rkC D s) (hn : τ.1 91 2 = nI s.2.2)
    (K : ∀ f g, rkX D (rkP n0 D (eqP S a b) s) g → Q none (mkX h c (uL (uL (uA τ 91 (xupd (τ.1 91) 2 (nI (rkP n0 D (eqP S a b) s).2.2))) 92 f) 93 g))) : m_X3_addPair.1 [.ref 91, .int (nI a), .int (nI b), .int (nI (S a b)), .int (nI D)] (mkX h c τ) Q := by
  have h0 : 0 < D := by omega
  have sl := hL.1 a b haD hbD
  have n1 : S a b ≠ a := fun z => by
    have := gl_cancel hL (x := b) (y := 0) (z := a) hbD h0 haD (by rw [hL.2.1 b a, z, hL.2.2.1 a haD])
    omega
  have n2 : S a b ≠ b := fun z => by
    have := gl_cancel hL (x := a) (y := 0) (z := b) haD h0 hbD (by rw [z, hL.2.2.1 b hbD])
    omega
  have sb : s.2.2 ≤ D - 1 := by rw [hC]; exact cnN_lx _
  by_cases cf : D - 1 ≤ s.2.2
  · have K := K (τ.2.1 92) (τ.2.1 93)
    rw [rk_full hC h0 cf] at K
    have K := K hs
    rw [uA_id2 τ 91 (f := xupd (τ.1 91) 2 (nI s.2.2)) (by rw [← hn, xupd_id]), uL_id2 τ 92 (f := τ.2.1 92) rfl, uL_id2 τ 93 (f := τ.2.1 93) rfl] at K
    have e1 : D - 1 = s.2.2 := by omega
    clear hs hC
    refine (xM_iff (g := g_X3_addPair) (b := b_X3_addPair) [.ref 91, .int (nI a), .int (nI b), .int (nI (S a b)), .int (nI D)] (Nat.le_of_ble_eq_true rfl) rfl).mpr ?_
    simp (disch := first | assumption | omega | decide | rfl | (simp (disch := omega) only [vA_eq, vA_ne, vA_2, vL_1, vL_eq, vL_ne, vL_22, vP_1, vP_21, vP_eq, vP_ne, xupd_ne, xupd_e2, not_false_eq_true, implies_true, *])) only [b_X3_addPair, g_X3_addPair, zPIc, zPBi, zPSi, zPLdc, zPLdcw, zPLd2, zPLc, zPNull, zPIn, zPI, zPLn, zPL, zPAn, zPA, zPStr, zPCs, zPU, zPB, zPBv, zPTn, zCIf, zCCm, zCNl, zCNot, zCAnd, zCOr, zOAdd, zOSub, zOMul, zOAnd, zOOr, zOXor, zOShl, zOShr, zOUshr, zODiv, zORem, zOAddL, zOSubL, zOMulL, zOAndL, zOXorL, zORemL, zOShlL, zOShrL, zOCmpL, zOIald, zOLald, zOZald, zOAald, zOI2l, zOL2i, zONeg, zONegL, zOGet, zOAlen, zOScrL, zOScr, zOSv, zOScd, zOBln, zOBld, zOI2c, zLIn, zLI, zLLn, zLL, zLAn, zLA, zQPut, zTI, zTL, zTZ, zTA, ↓yEP, ↓yEU, ↓yEB, ↓yDC, ↓yDIf, ↓yDCm, ↓zDNot, ↓zDAnd, ↓zDOr, ↓zEBv, ↓zETn, ↓zAN, ↓zAC, ↓yKV, ↓yKS, ↓yKX, ↓yKAc, ↓yEK, ↓yENew, ↓yENa, ↓zSNop, ↓zSSeq, ↓zSBrk, ↓zSCnt, ↓zSSB, ↓zSSC, ↓zSSc, ↓zSIf, ↓zSIfE, ↓zSIfR, ↓zSIfB, ↓zSIfC, ↓zSDead, ↓ySSt, ↓ySInc, ↓ySPut, ↓ySPutC, ↓ySAst, ↓ySAstC, ↓ySK, ↓ySKp, ↓zSRv, ↓ySR, ↓ySLp, ↓ySWh, ↓ySSw, ob_s, ob_n, gd_t, gd_f, okx_r, xai_i, li0, lis, ll0, lls, la0, la0n, la0r, las, xs1_0, xs1_1, xs1_s, xs2_0, xs2_1, xs2_s, xisl_i, xisl_r, xisl_n, xisl_a, xisl_j, xisl_l, si_0, si_1, si_s, sl_0, sl_1, sl_s, sa_0, sa_1, sa_s, inc_, ii_, iz_, ll_, lz_, lsh_, lc_, i2l_, l2i_, neg_, negl_, if_, cm_, nl_r, nl_n, rI_i, rI_l, rI_r, rI_n, rI_a, rv_v, rv_i, rv_l, rv_b, rv_b1, rv_b0, rv_r, rv_n, rv_a, cat_i, cat_l, cat_r, cat_n, cat_b, rI_b, if_b, bi_, si2_, Option.bind_some, Option.bind_none, Option.map_some, Option.some.injEq, exists_eq_left, exists_eq_left', List.getElem?_cons_zero, List.getElem?_cons_succ, List.length_cons, List.length_nil, ↓reduceIte, true_and, and_true, Fin.isValue, Fin.val_zero, Fin.val_one, Fin.val_two, Fin.reduceFinMk, reduceCtorEq, exists_const, Bool.false_eq_true, Nat.reduceAdd, Nat.zero_add, Nat.reduceMul, Nat.reduceLeDiff, Nat.le_refl, exists_and_left, List.set_cons_zero, List.set_cons_succ, oX_CornerCuts, xg10_0, xg10_1, xg10_2, xg10_3, xg10_4, xg10_5, xg10_6, xg10_7, xg10_8, xg10_9, xg10_10, xg10_11, xg10_12, xp10_12, xg10_13, xp10_13, xg10_14, xq10_14, xg10_15, xq10_15, xg10_16, xq10_16, oX_History, xg2_0, xg2_1, xg2_2, xp2_2, xg2_3, xp2_3, oX_Group, xg1_0, xp1_0, xg1_1, xp1_1, xg1_2, xp1_2, xg1_3, xg1_4, xg1_5, xg1_6, xg1_7, oX_Walks, xg9_0, xg9_1, xg9_2, xg9_3, xg9_4, xq9_4, xg9_5, xq9_5, xg9_6, xp9_6, oX_Judge, xg3_0, xg3_1, xg3_2, xp3_2, oX_Table, xg6_0, xp6_0, xg6_1, xg6_2, xp6_2, xg6_3, oX_Tape, xg7_0, xg7_1, xp7_1, xg7_2, xp7_2, xg7_3, xp7_3, xa2, xt2_, xl2, xa3, xt3_, xl3, xa4, xt4_, xl4, xa5, xt5_, xl5, xa6, xt6_, xl6, xa7, xl7, xa9, xl9, xa10, xt10_, xl10, xa72, xt72_, xl72, xa74, xt74_, xl74, xa75, xt75_, xl75, xa76, xt76_, xl76, xa77, xt77_, xl77, xa78, xt78_, xl78, xa84, xt84_, xl84, xa85, xt85_, xl85, xa86, xt86_, xl86, xa92, xt92_, xl92, xa93, xt93_, xl93, xa95, xt95_, xl95, xa96, xt96_, xl96, xa147, xt147_, xl147, xa148, xt148_, xl148, xa149, xt149_, xl149, zb0, lT2, lT3, lT8, lT9, lT99, lT9999, lTc0, lTc1, lTm1, lTm9, lTm99, lTm9999, oI0, oI1, oI10, oI100, oI11, oI12, oI122, oI13, oI14, oI15, oI16, oI18, oI192, oI2, oI20, oI22, oI23, oI24, oI25, oI255, oI26, oI3, oI30, oI31, oI32, oI39, oI3951, oI4, oI40, oI400, oI4000, oI439, oI4390, oI45, oI48, oI5, oI50, oI57, oI576, oI6, oI600, oI64, oI7, oI72, oI8, oI878, oI9, oI96, oI97, oI99, oI999, oI9999, oIm1, oIm2, oIm4, oIm5, oIm6, oIm9, oIm99, zb0, zb1, zb2, zb3, bI_ne, bI_eq, iz_n, rem_n, div_n, af_d, kp_d, fin3, isr_r, isr_n, isr_a, Value.ref.injEq, Sum.inr.injEq, Prod.mk.injEq, nI_m, nI_a, xinb_n, clamp_n, xc_lt, xc_le, xc_gt, xc_ge, xc_eq, xc_ne, xz_eq, xz_ne, xz_lt, xz_ge, xz_gt, xz_le, pk_sub, Nat.reduceSub, decide_true, decide_false, eq_self, Nat.add_sub_cancel, dt_lt, df_lt, dt_le, df_le, dt_eq, df_eq, iff_self, Bool.not_true, Bool.not_false, Bool.and_true, Bool.true_and, Bool.and_false, Bool.false_and, false_and, and_false, xrf_n, xrf_s, sa_0r, sa_1r, vA_eq, vA_ne, vA_2, vL_1, vL_eq, vL_ne, vL_22, vP_1, vP_21, vP_eq, vP_ne, uA_uA, uL_uL, uP_uP, uA_sx, uL_sx, uP_sx, id_eq, uA_uL, uA_uP, uL_uP, xupd_e2, xupd_ne, xupd_xupd, hn]
    exact K
  · have FL := fun Q' => ex_fillL 92 (lN 0) h c τ Q' 24 (by omega) (fun τ => xl92 h c τ) (fun τ i x hi => xt92_ h c τ x hi)
    have AR := fun (f0 : Nat → Int64) (hf0 : ∀ j, 1 ≤ j → j < D → f0 j = lN (pX a b (S a b) j)) Q' K' => x_addRow (n0 := n0) (s := s) (E0 := eqP S a b) (X0 := pX a b (S a b)) (h := h) (c := c) (τ := uL τ 92 f0) (Q := Q') hn0 h0 hD hs hn (fun j h1 h2 => ⟨hf0 j h1 h2, (pX_E ha hb h1).2.2, (pX_E ha hb h1).1, (pX_E ha hb h1).2.1⟩) K'
    clear hs hC
    by_cases cab : a = b
    · subst cab
      have hf0 : ∀ j, 1 ≤ j → j < D → xupd (xupd (fil (τ.2.1 92) (lN 0) 24) a (lN 2)) (S a a) (lN 1000002) j = lN (pX a a (S a a) j) := fun j h1 h2 => by
        rw [pX]
        by_cases c1 : j = S a a
        · rw [if_pos c1, c1, xupd_eq, if_neg n1]
        · rw [xupd_ne c1, if_neg c1]
          by_cases c2 : j = a
          · rw [c2, xupd_eq, if_pos rfl]
          · rw [xupd_ne c2, if_neg c2, fil_at _ _ (by omega)]
      have AR := AR _ hf0
      clear hf0
      refine (xM_iff (g := g_X3_addPair) (b := b_X3_addPair) [.ref 91, .int (nI a), .int (nI a), .int (nI (S a a)), .int (nI D)] (Nat.le_of_ble_eq_true rfl) rfl).mpr ?_
      simp (disch := first | assumption | omega | decide | rfl | (simp (disch := omega) only [vA_eq, vA_ne, vA_2, vL_1, vL_eq, vL_ne, vL_22, vP_1, vP_21, vP_eq, vP_ne, xupd_ne, xupd_e2, not_false_eq_true, implies_true, *])) only [b_X3_addPair, g_X3_addPair, zPIc, zPBi, zPSi, zPLdc, zPLdcw, zPLd2, zPLc, zPNull, zPIn, zPI, zPLn, zPL, zPAn, zPA, zPStr, zPCs, zPU, zPB, zPBv, zPTn, zCIf, zCCm, zCNl, zCNot, zCAnd, zCOr, zOAdd, zOSub, zOMul, zOAnd, zOOr, zOXor, zOShl, zOShr, zOUshr, zODiv, zORem, zOAddL, zOSubL, zOMulL, zOAndL, zOXorL, zORemL, zOShlL, zOShrL, zOCmpL, zOIald, zOLald, zOZald, zOAald, zOI2l, zOL2i, zONeg, zONegL, zOGet, zOAlen, zOScrL, zOScr, zOSv, zOScd, zOBln, zOBld, zOI2c, zLIn, zLI, zLLn, zLL, zLAn, zLA, zQPut, zTI, zTL, zTZ, zTA, ↓yEP, ↓yEU, ↓yEB, ↓yDC, ↓yDIf, ↓yDCm, ↓zDNot, ↓zDAnd, ↓zDOr, ↓zEBv, ↓zETn, ↓zAN, ↓zAC, ↓yKV, ↓yKS, ↓yKX, ↓yKAc, ↓yEK, ↓yENew, ↓yENa, ↓zSNop, ↓zSSeq, ↓zSBrk, ↓zSCnt, ↓zSSB, ↓zSSC, ↓zSSc, ↓zSIf, ↓zSIfE, ↓zSIfR, ↓zSIfB, ↓zSIfC, ↓zSDead, ↓ySSt, ↓ySInc, ↓ySPut, ↓ySPutC, ↓ySAst, ↓ySAstC, ↓ySK, ↓ySKp, ↓zSRv, ↓ySR, ↓ySLp, ↓ySWh, ↓ySSw, ob_s, ob_n, gd_t, gd_f, okx_r, xai_i, li0, lis, ll0, lls, la0, la0n, la0r, las, xs1_0, xs1_1, xs1_s, xs2_0, xs2_1, xs2_s, xisl_i, xisl_r, xisl_n, xisl_a, xisl_j, xisl_l, si_0, si_1, si_s, sl_0, sl_1, sl_s, sa_0, sa_1, sa_s, inc_, ii_, iz_, ll_, lz_, lsh_, lc_, i2l_, l2i_, neg_, negl_, if_, cm_, nl_r, nl_n, rI_i, rI_l, rI_r, rI_n, rI_a, rv_v, rv_i, rv_l, rv_b, rv_b1, rv_b0, rv_r, rv_n, rv_a, cat_i, cat_l, cat_r, cat_n, cat_b, rI_b, if_b, bi_, si2_, Option.bind_some, Option.bind_none, Option.map_some, Option.some.injEq, exists_eq_left, exists_eq_left', List.getElem?_cons_zero, List.getElem?_cons_succ, List.length_cons, List.length_nil, ↓reduceIte, true_and, and_true, Fin.isValue, Fin.val_zero, Fin.val_one, Fin.val_two, Fin.reduceFinMk, reduceCtorEq, exists_const, Bool.false_eq_true, Nat.reduceAdd, Nat.zero_add, Nat.reduceMul, Nat.reduceLeDiff, Nat.le_refl, exists_and_left, List.set_cons_zero, List.set_cons_succ, oX_CornerCuts, xg10_0, xg10_1, xg10_2, xg10_3, xg10_4, xg10_5, xg10_6, xg10_7, xg10_8, xg10_9, xg10_10, xg10_11, xg10_12, xp10_12, xg10_13, xp10_13, xg10_14, xq10_14, xg10_15, xq10_15, xg10_16, xq10_16, oX_History, xg2_0, xg2_1, xg2_2, xp2_2, xg2_3, xp2_3, oX_Group, xg1_0, xp1_0, xg1_1, xp1_1, xg1_2, xp1_2, xg1_3, xg1_4, xg1_5, xg1_6, xg1_7, oX_Walks, xg9_0, xg9_1, xg9_2, xg9_3, xg9_4, xq9_4, xg9_5, xq9_5, xg9_6, xp9_6, oX_Judge, xg3_0, xg3_1, xg3_2, xp3_2, oX_Table, xg6_0, xp6_0, xg6_1, xg6_2, xp6_2, xg6_3, oX_Tape, xg7_0, xg7_1, xp7_1, xg7_2, xp7_2, xg7_3, xp7_3, xa2, xt2_, xl2, xa3, xt3_, xl3, xa4, xt4_, xl4, xa5, xt5_, xl5, xa6, xt6_, xl6, xa7, xl7, xa9, xl9, xa10, xt10_, xl10, xa72, xt72_, xl72, xa74, xt74_, xl74, xa75, xt75_, xl75, xa76, xt76_, xl76, xa77, xt77_, xl77, xa78, xt78_, xl78, xa84, xt84_, xl84, xa85, xt85_, xl85, xa86, xt86_, xl86, xa92, xt92_, xl92, xa93, xt93_, xl93, xa95, xt95_, xl95, xa96, xt96_, xl96, xa147, xt147_, xl147, xa148, xt148_, xl148, xa149, xt149_, xl149, zb0, lT2, lT3, lT8, lT9, lT99, lT9999, lTc0, lTc1, lTm1, lTm9, lTm99, lTm9999, oI0, oI1, oI10, oI100, oI11, oI12, oI122, oI13, oI14, oI15, oI16, oI18, oI192, oI2, oI20, oI22, oI23, oI24, oI25, oI255, oI26, oI3, oI30, oI31, oI32, oI39, oI3951, oI4, oI40, oI400, oI4000, oI439, oI4390, oI45, oI48, oI5, oI50, oI57, oI576, oI6, oI600, oI64, oI7, oI72, oI8, oI878, oI9, oI96, oI97, oI99, oI999, oI9999, oIm1, oIm2, oIm4, oIm5, oIm6, oIm9, oIm99, zb0, zb1, zb2, zb3, bI_ne, bI_eq, iz_n, rem_n, div_n, af_d, kp_d, fin3, isr_r, isr_n, isr_a, Value.ref.injEq, Sum.inr.injEq, Prod.mk.injEq, nI_m, nI_a, xinb_n, clamp_n, xc_lt, xc_le, xc_gt, xc_ge, xc_eq, xc_ne, xz_eq, xz_ne, xz_lt, xz_ge, xz_gt, xz_le, pk_sub, Nat.reduceSub, decide_true, decide_false, eq_self, Nat.add_sub_cancel, dt_lt, df_lt, dt_le, df_le, dt_eq, df_eq, iff_self, Bool.not_true, Bool.not_false, Bool.and_true, Bool.true_and, Bool.and_false, Bool.false_and, false_and, and_false, xrf_n, xrf_s, sa_0r, sa_1r, vA_eq, vA_ne, vA_2, vL_1, vL_eq, vL_ne, vL_22, vP_1, vP_21, vP_eq, vP_ne, uA_uA, uL_uL, uP_uP, uA_sx, uL_sx, uP_sx, id_eq, uA_uL, uA_uP, uL_uP, xupd_e2, xupd_ne, xupd_xupd, hn, cf, l0N, ↓FL, l1N, kPmV, fil_at, lN_ad]
      refine AR _ (fun f g hr => ?_)
      have K := K f g hr
      clear AR hr FL
      simp (disch := first | assumption | omega | decide | rfl | (simp (disch := omega) only [vA_eq, vA_ne, vA_2, vL_1, vL_eq, vL_ne, vL_22, vP_1, vP_21, vP_eq, vP_ne, xupd_ne, xupd_e2, not_false_eq_true, implies_true, *])) only [zPIc, zPBi, zPSi, zPLdc, zPLdcw, zPLd2, zPLc, zPNull, zPIn, zPI, zPLn, zPL, zPAn, zPA, zPStr, zPCs, zPU, zPB, zPBv, zPTn, zCIf, zCCm, zCNl, zCNot, zCAnd, zCOr, zOAdd, zOSub, zOMul, zOAnd, zOOr, zOXor, zOShl, zOShr, zOUshr, zODiv, zORem, zOAddL, zOSubL, zOMulL, zOAndL, zOXorL, zORemL, zOShlL, zOShrL, zOCmpL, zOIald, zOLald, zOZald, zOAald, zOI2l, zOL2i, zONeg, zONegL, zOGet, zOAlen, zOScrL, zOScr, zOSv, zOScd, zOBln, zOBld, zOI2c, zLIn, zLI, zLLn, zLL, zLAn, zLA, zQPut, zTI, zTL, zTZ, zTA, ↓yEP, ↓yEU, ↓yEB, ↓yDC, ↓yDIf, ↓yDCm, ↓zDNot, ↓zDAnd, ↓zDOr, ↓zEBv, ↓zETn, ↓zAN, ↓zAC, ↓yKV, ↓yKS, ↓yKX, ↓yKAc, ↓yEK, ↓yENew, ↓yENa, ↓zSNop, ↓zSSeq, ↓zSBrk, ↓zSCnt, ↓zSSB, ↓zSSC, ↓zSSc, ↓zSIf, ↓zSIfE, ↓zSIfR, ↓zSIfB, ↓zSIfC, ↓zSDead, ↓ySSt, ↓ySInc, ↓ySPut, ↓ySPutC, ↓ySAst, ↓ySAstC, ↓ySK, ↓ySKp, ↓zSRv, ↓ySR, ↓ySLp, ↓ySWh, ↓ySSw, ob_s, ob_n, gd_t, gd_f, okx_r, xai_i, li0, lis, ll0, lls, la0, la0n, la0r, las, xs1_0, xs1_1, xs1_s, xs2_0, xs2_1, xs2_s, xisl_i, xisl_r, xisl_n, xisl_a, xisl_j, xisl_l, si_0, si_1, si_s, sl_0, sl_1, sl_s, sa_0, sa_1, sa_s, inc_, ii_, iz_, ll_, lz_, lsh_, lc_, i2l_, l2i_, neg_, negl_, if_, cm_, nl_r, nl_n, rI_i, rI_l, rI_r, rI_n, rI_a, rv_v, rv_i, rv_l, rv_b, rv_b1, rv_b0, rv_r, rv_n, rv_a, cat_i, cat_l, cat_r, cat_n, cat_b, rI_b, if_b, bi_, si2_, Option.bind_some, Option.bind_none, Option.map_some, Option.some.injEq, exists_eq_left, exists_eq_left', List.getElem?_cons_zero, List.getElem?_cons_succ, List.length_cons, List.length_nil, ↓reduceIte, true_and, and_true, Fin.isValue, Fin.val_zero, Fin.val_one, Fin.val_two, Fin.reduceFinMk, reduceCtorEq, exists_const, Bool.false_eq_true, Nat.reduceAdd, Nat.zero_add, Nat.reduceMul, Nat.reduceLeDiff, Nat.le_refl, exists_and_left, List.set_cons_zero, List.set_cons_succ, oX_CornerCuts, xg10_0, xg10_1, xg10_2, xg10_3, xg10_4, xg10_5, xg10_6, xg10_7, xg10_8, xg10_9, xg10_10, xg10_11, xg10_12, xp10_12, xg10_13, xp10_13, xg10_14, xq10_14, xg10_15, xq10_15, xg10_16, xq10_16, oX_History, xg2_0, xg2_1, xg2_2, xp2_2, xg2_3, xp2_3, oX_Group, xg1_0, xp1_0, xg1_1, xp1_1, xg1_2, xp1_2, xg1_3, xg1_4, xg1_5, xg1_6, xg1_7, oX_Walks, xg9_0, xg9_1, xg9_2, xg9_3, xg9_4, xq9_4, xg9_5, xq9_5, xg9_6, xp9_6, oX_Judge, xg3_0, xg3_1, xg3_2, xp3_2, oX_Table, xg6_0, xp6_0, xg6_1, xg6_2, xp6_2, xg6_3, oX_Tape, xg7_0, xg7_1, xp7_1, xg7_2, xp7_2, xg7_3, xp7_3, xa2, xt2_, xl2, xa3, xt3_, xl3, xa4, xt4_, xl4, xa5, xt5_, xl5, xa6, xt6_, xl6, xa7, xl7, xa9, xl9, xa10, xt10_, xl10, xa72, xt72_, xl72, xa74, xt74_, xl74, xa75, xt75_, xl75, xa76, xt76_, xl76, xa77, xt77_, xl77, xa78, xt78_, xl78, xa84, xt84_, xl84, xa85, xt85_, xl85, xa86, xt86_, xl86, xa92, xt92_, xl92, xa93, xt93_, xl93, xa95, xt95_, xl95, xa96, xt96_, xl96, xa147, xt147_, xl147, xa148, xt148_, xl148, xa149, xt149_, xl149, zb0, lT2, lT3, lT8, lT9, lT99, lT9999, lTc0, lTc1, lTm1, lTm9, lTm99, lTm9999, oI0, oI1, oI10, oI100, oI11, oI12, oI122, oI13, oI14, oI15, oI16, oI18, oI192, oI2, oI20, oI22, oI23, oI24, oI25, oI255, oI26, oI3, oI30, oI31, oI32, oI39, oI3951, oI4, oI40, oI400, oI4000, oI439, oI4390, oI45, oI48, oI5, oI50, oI57, oI576, oI6, oI600, oI64, oI7, oI72, oI8, oI878, oI9, oI96, oI97, oI99, oI999, oI9999, oIm1, oIm2, oIm4, oIm5, oIm6, oIm9, oIm99, zb0, zb1, zb2, zb3, bI_ne, bI_eq, iz_n, rem_n, div_n, af_d, kp_d, fin3, isr_r, isr_n, isr_a, Value.ref.injEq, Sum.inr.injEq, Prod.mk.injEq, nI_m, nI_a, xinb_n, clamp_n, xc_lt, xc_le, xc_gt, xc_ge, xc_eq, xc_ne, xz_eq, xz_ne, xz_lt, xz_ge, xz_gt, xz_le, pk_sub, Nat.reduceSub, decide_true, decide_false, eq_self, Nat.add_sub_cancel, dt_lt, df_lt, dt_le, df_le, dt_eq, df_eq, iff_self, Bool.not_true, Bool.not_false, Bool.and_true, Bool.true_and, Bool.and_false, Bool.false_and, false_and, and_false, xrf_n, xrf_s, sa_0r, sa_1r, vA_eq, vA_ne, vA_2, vL_1, vL_eq, vL_ne, vL_22, vP_1, vP_21, vP_eq, vP_ne, uA_uA, uL_uL, uP_uP, uA_sx, uL_sx, uP_sx, id_eq, uA_uL, uA_uP, uL_uP, xupd_e2, xupd_ne, xupd_xupd]
      exact K
    · have hf0 : ∀ j, 1 ≤ j → j < D → xupd (xupd (xupd (fil (τ.2.1 92) (lN 0) 24) a (lN 1)) b (lN 1)) (S a b) (lN 1000002) j = lN (pX a b (S a b) j) := fun j h1 h2 => by
        rw [pX]
        by_cases c1 : j = S a b
        · rw [if_pos c1, c1, xupd_eq, if_neg n1, if_neg n2]
        · rw [xupd_ne c1, if_neg c1]
          by_cases c2 : j = b
          · rw [c2, xupd_eq, if_neg (fun z => cab z.symm), if_pos rfl]
          · rw [xupd_ne c2, if_neg c2]
            by_cases c3 : j = a
            · rw [c3, xupd_eq, if_pos rfl]
            · rw [xupd_ne c3, if_neg c3, fil_at _ _ (by omega)]
      have AR := AR _ hf0
      have cba : b ≠ a := fun z => cab z.symm
      clear hf0
      refine (xM_iff (g := g_X3_addPair) (b := b_X3_addPair) [.ref 91, .int (nI a), .int (nI b), .int (nI (S a b)), .int (nI D)] (Nat.le_of_ble_eq_true rfl) rfl).mpr ?_
      simp (disch := first | assumption | omega | decide | rfl | (simp (disch := omega) only [vA_eq, vA_ne, vA_2, vL_1, vL_eq, vL_ne, vL_22, vP_1, vP_21, vP_eq, vP_ne, xupd_ne, xupd_e2, not_false_eq_true, implies_true, *])) only [b_X3_addPair, g_X3_addPair, zPIc, zPBi, zPSi, zPLdc, zPLdcw, zPLd2, zPLc, zPNull, zPIn, zPI, zPLn, zPL, zPAn, zPA, zPStr, zPCs, zPU, zPB, zPBv, zPTn, zCIf, zCCm, zCNl, zCNot, zCAnd, zCOr, zOAdd, zOSub, zOMul, zOAnd, zOOr, zOXor, zOShl, zOShr, zOUshr, zODiv, zORem, zOAddL, zOSubL, zOMulL, zOAndL, zOXorL, zORemL, zOShlL, zOShrL, zOCmpL, zOIald, zOLald, zOZald, zOAald, zOI2l, zOL2i, zONeg, zONegL, zOGet, zOAlen, zOScrL, zOScr, zOSv, zOScd, zOBln, zOBld, zOI2c, zLIn, zLI, zLLn, zLL, zLAn, zLA, zQPut, zTI, zTL, zTZ, zTA, ↓yEP, ↓yEU, ↓yEB, ↓yDC, ↓yDIf, ↓yDCm, ↓zDNot, ↓zDAnd, ↓zDOr, ↓zEBv, ↓zETn, ↓zAN, ↓zAC, ↓yKV, ↓yKS, ↓yKX, ↓yKAc, ↓yEK, ↓yENew, ↓yENa, ↓zSNop, ↓zSSeq, ↓zSBrk, ↓zSCnt, ↓zSSB, ↓zSSC, ↓zSSc, ↓zSIf, ↓zSIfE, ↓zSIfR, ↓zSIfB, ↓zSIfC, ↓zSDead, ↓ySSt, ↓ySInc, ↓ySPut, ↓ySPutC, ↓ySAst, ↓ySAstC, ↓ySK, ↓ySKp, ↓zSRv, ↓ySR, ↓ySLp, ↓ySWh, ↓ySSw, ob_s, ob_n, gd_t, gd_f, okx_r, xai_i, li0, lis, ll0, lls, la0, la0n, la0r, las, xs1_0, xs1_1, xs1_s, xs2_0, xs2_1, xs2_s, xisl_i, xisl_r, xisl_n, xisl_a, xisl_j, xisl_l, si_0, si_1, si_s, sl_0, sl_1, sl_s, sa_0, sa_1, sa_s, inc_, ii_, iz_, ll_, lz_, lsh_, lc_, i2l_, l2i_, neg_, negl_, if_, cm_, nl_r, nl_n, rI_i, rI_l, rI_r, rI_n, rI_a, rv_v, rv_i, rv_l, rv_b, rv_b1, rv_b0, rv_r, rv_n, rv_a, cat_i, cat_l, cat_r, cat_n, cat_b, rI_b, if_b, bi_, si2_, Option.bind_some, Option.bind_none, Option.map_some, Option.some.injEq, exists_eq_left, exists_eq_left', List.getElem?_cons_zero, List.getElem?_cons_succ, List.length_cons, List.length_nil, ↓reduceIte, true_and, and_true, Fin.isValue, Fin.val_zero, Fin.val_one, Fin.val_two, Fin.reduceFinMk, reduceCtorEq, exists_const, Bool.false_eq_true, Nat.reduceAdd, Nat.zero_add, Nat.reduceMul, Nat.reduceLeDiff, Nat.le_refl, exists_and_left, List.set_cons_zero, List.set_cons_succ, oX_CornerCuts, xg10_0, xg10_1, xg10_2, xg10_3, xg10_4, xg10_5, xg10_6, xg10_7, xg10_8, xg10_9, xg10_10, xg10_11, xg10_12, xp10_12, xg10_13, xp10_13, xg10_14, xq10_14, xg10_15, xq10_15, xg10_16, xq10_16, oX_History, xg2_0, xg2_1, xg2_2, xp2_2, xg2_3, xp2_3, oX_Group, xg1_0, xp1_0, xg1_1, xp1_1, xg1_2, xp1_2, xg1_3, xg1_4, xg1_5, xg1_6, xg1_7, oX_Walks, xg9_0, xg9_1, xg9_2, xg9_3, xg9_4, xq9_4, xg9_5, xq9_5, xg9_6, xp9_6, oX_Judge, xg3_0, xg3_1, xg3_2, xp3_2, oX_Table, xg6_0, xp6_0, xg6_1, xg6_2, xp6_2, xg6_3, oX_Tape, xg7_0, xg7_1, xp7_1, xg7_2, xp7_2, xg7_3, xp7_3, xa2, xt2_, xl2, xa3, xt3_, xl3, xa4, xt4_, xl4, xa5, xt5_, xl5, xa6, xt6_, xl6, xa7, xl7, xa9, xl9, xa10, xt10_, xl10, xa72, xt72_, xl72, xa74, xt74_, xl74, xa75, xt75_, xl75, xa76, xt76_, xl76, xa77, xt77_, xl77, xa78, xt78_, xl78, xa84, xt84_, xl84, xa85, xt85_, xl85, xa86, xt86_, xl86, xa92, xt92_, xl92, xa93, xt93_, xl93, xa95, xt95_, xl95, xa96, xt96_, xl96, xa147, xt147_, xl147, xa148, xt148_, xl148, xa149, xt149_, xl149, zb0, lT2, lT3, lT8, lT9, lT99, lT9999, lTc0, lTc1, lTm1, lTm9, lTm99, lTm9999, oI0, oI1, oI10, oI100, oI11, oI12, oI122, oI13, oI14, oI15, oI16, oI18, oI192, oI2, oI20, oI22, oI23, oI24, oI25, oI255, oI26, oI3, oI30, oI31, oI32, oI39, oI3951, oI4, oI40, oI400, oI4000, oI439, oI4390, oI45, oI48, oI5, oI50, oI57, oI576, oI6, oI600, oI64, oI7, oI72, oI8, oI878, oI9, oI96, oI97, oI99, oI999, oI9999, oIm1, oIm2, oIm4, oIm5, oIm6, oIm9, oIm99, zb0, zb1, zb2, zb3, bI_ne, bI_eq, iz_n, rem_n, div_n, af_d, kp_d, fin3, isr_r, isr_n, isr_a, Value.ref.injEq, Sum.inr.injEq, Prod.mk.injEq, nI_m, nI_a, xinb_n, clamp_n, xc_lt, xc_le, xc_gt, xc_ge, xc_eq, xc_ne, xz_eq, xz_ne, xz_lt, xz_ge, xz_gt, xz_le, pk_sub, Nat.reduceSub, decide_true, decide_false, eq_self, Nat.add_sub_cancel, dt_lt, df_lt, dt_le, df_le, dt_eq, df_eq, iff_self, Bool.not_true, Bool.not_false, Bool.and_true, Bool.true_and, Bool.and_false, Bool.false_and, false_and, and_false, xrf_n, xrf_s, sa_0r, sa_1r, vA_eq, vA_ne, vA_2, vL_1, vL_eq, vL_ne, vL_22, vP_1, vP_21, vP_eq, vP_ne, uA_uA, uL_uL, uP_uP, uA_sx, uL_sx, uP_sx, id_eq, uA_uL, uA_uP, uL_uP, xupd_e2, xupd_ne, xupd_xupd, hn, cf, l0N, ↓FL, l1N, kPmV, fil_at, lN_ad]
      refine AR _ (fun f g hr => ?_)
      have K := K f g hr
      clear AR hr FL
      simp (disch := first | assumption | omega | decide | rfl | (simp (disch := omega) only [vA_eq, vA_ne, vA_2, vL_1, vL_eq, vL_ne, vL_22, vP_1, vP_21, vP_eq, vP_ne, xupd_ne, xupd_e2, not_false_eq_true, implies_true, *])) only [zPIc, zPBi, zPSi, zPLdc, zPLdcw, zPLd2, zPLc, zPNull, zPIn, zPI, zPLn, zPL, zPAn, zPA, zPStr, zPCs, zPU, zPB, zPBv, zPTn, zCIf, zCCm, zCNl, zCNot, zCAnd, zCOr, zOAdd, zOSub, zOMul, zOAnd, zOOr, zOXor, zOShl, zOShr, zOUshr, zODiv, zORem, zOAddL, zOSubL, zOMulL, zOAndL, zOXorL, zORemL, zOShlL, zOShrL, zOCmpL, zOIald, zOLald, zOZald, zOAald, zOI2l, zOL2i, zONeg, zONegL, zOGet, zOAlen, zOScrL, zOScr, zOSv, zOScd, zOBln, zOBld, zOI2c, zLIn, zLI, zLLn, zLL, zLAn, zLA, zQPut, zTI, zTL, zTZ, zTA, ↓yEP, ↓yEU, ↓yEB, ↓yDC, ↓yDIf, ↓yDCm, ↓zDNot, ↓zDAnd, ↓zDOr, ↓zEBv, ↓zETn, ↓zAN, ↓zAC, ↓yKV, ↓yKS, ↓yKX, ↓yKAc, ↓yEK, ↓yENew, ↓yENa, ↓zSNop, ↓zSSeq, ↓zSBrk, ↓zSCnt, ↓zSSB, ↓zSSC, ↓zSSc, ↓zSIf, ↓zSIfE, ↓zSIfR, ↓zSIfB, ↓zSIfC, ↓zSDead, ↓ySSt, ↓ySInc, ↓ySPut, ↓ySPutC, ↓ySAst, ↓ySAstC, ↓ySK, ↓ySKp, ↓zSRv, ↓ySR, ↓ySLp, ↓ySWh, ↓ySSw, ob_s, ob_n, gd_t, gd_f, okx_r, xai_i, li0, lis, ll0, lls, la0, la0n, la0r, las, xs1_0, xs1_1, xs1_s, xs2_0, xs2_1, xs2_s, xisl_i, xisl_r, xisl_n, xisl_a, xisl_j, xisl_l, si_0, si_1, si_s, sl_0, sl_1, sl_s, sa_0, sa_1, sa_s, inc_, ii_, iz_, ll_, lz_, lsh_, lc_, i2l_, l2i_, neg_, negl_, if_, cm_, nl_r, nl_n, rI_i, rI_l, rI_r, rI_n, rI_a, rv_v, rv_i, rv_l, rv_b, rv_b1, rv_b0, rv_r, rv_n, rv_a, cat_i, cat_l, cat_r, cat_n, cat_b, rI_b, if_b, bi_, si2_, Option.bind_some, Option.bind_none, Option.map_some, Option.some.injEq, exists_eq_left, exists_eq_left', List.getElem?_cons_zero, List.getElem?_cons_succ, List.length_cons, List.length_nil, ↓reduceIte, true_and, and_true, Fin.isValue, Fin.val_zero, Fin.val_one, Fin.val_two, Fin.reduceFinMk, reduceCtorEq, exists_const, Bool.false_eq_true, Nat.reduceAdd, Nat.zero_add, Nat.reduceMul, Nat.reduceLeDiff, Nat.le_refl, exists_and_left, List.set_cons_zero, List.set_cons_succ, oX_CornerCuts, xg10_0, xg10_1, xg10_2, xg10_3, xg10_4, xg10_5, xg10_6, xg10_7, xg10_8, xg10_9, xg10_10, xg10_11, xg10_12, xp10_12, xg10_13, xp10_13, xg10_14, xq10_14, xg10_15, xq10_15, xg10_16, xq10_16, oX_History, xg2_0, xg2_1, xg2_2, xp2_2, xg2_3, xp2_3, oX_Group, xg1_0, xp1_0, xg1_1, xp1_1, xg1_2, xp1_2, xg1_3, xg1_4, xg1_5, xg1_6, xg1_7, oX_Walks, xg9_0, xg9_1, xg9_2, xg9_3, xg9_4, xq9_4, xg9_5, xq9_5, xg9_6, xp9_6, oX_Judge, xg3_0, xg3_1, xg3_2, xp3_2, oX_Table, xg6_0, xp6_0, xg6_1, xg6_2, xp6_2, xg6_3, oX_Tape, xg7_0, xg7_1, xp7_1, xg7_2, xp7_2, xg7_3, xp7_3, xa2, xt2_, xl2, xa3, xt3_, xl3, xa4, xt4_, xl4, xa5, xt5_, xl5, xa6, xt6_, xl6, xa7, xl7, xa9, xl9, xa10, xt10_, xl10, xa72, xt72_, xl72, xa74, xt74_, xl74, xa75, xt75_, xl75, xa76, xt76_, xl76, xa77, xt77_, xl77, xa78, xt78_, xl78, xa84, xt84_, xl84, xa85, xt85_, xl85, xa86, xt86_, xl86, xa92, xt92_, xl92, xa93, xt93_, xl93, xa95, xt95_, xl95, xa96, xt96_, xl96, xa147, xt147_, xl147, xa148, xt148_, xl148, xa149, xt149_, xl149, zb0, lT2, lT3, lT8, lT9, lT99, lT9999, lTc0, lTc1, lTm1, lTm9, lTm99, lTm9999, oI0, oI1, oI10, oI100, oI11, oI12, oI122, oI13, oI14, oI15, oI16, oI18, oI192, oI2, oI20, oI22, oI23, oI24, oI25, oI255, oI26, oI3, oI30, oI31, oI32, oI39, oI3951, oI4, oI40, oI400, oI4000, oI439, oI4390, oI45, oI48, oI5, oI50, oI57, oI576, oI6, oI600, oI64, oI7, oI72, oI8, oI878, oI9, oI96, oI97, oI99, oI999, oI9999, oIm1, oIm2, oIm4, oIm5, oIm6, oIm9, oIm99, zb0, zb1, zb2, zb3, bI_ne, bI_eq, iz_n, rem_n, div_n, af_d, kp_d, fin3, isr_r, isr_n, isr_a, Value.ref.injEq, Sum.inr.injEq, Prod.mk.injEq, nI_m, nI_a, xinb_n, clamp_n, xc_lt, xc_le, xc_gt, xc_ge, xc_eq, xc_ne, xz_eq, xz_ne, xz_lt, xz_ge, xz_gt, xz_le, pk_sub, Nat.reduceSub, decide_true, decide_false, eq_self, Nat.add_sub_cancel, dt_lt, df_lt, dt_le, df_le, dt_eq, df_eq, iff_self, Bool.not_true, Bool.not_false, Bool.and_true, Bool.true_and, Bool.and_false, Bool.false_and, false_and, and_false, xrf_n, xrf_s, sa_0r, sa_1r, vA_eq, vA_ne, vA_2, vL_1, vL_eq, vL_ne, vL_22, vP_1, vP_21, vP_eq, vP_ne, uA_uA, uL_uL, uP_uP, uA_sx, uL_sx, uP_sx, id_eq, uA_uL, uA_uP, uL_uP, xupd_e2, xupd_ne, xupd_xupd]
      exact K
