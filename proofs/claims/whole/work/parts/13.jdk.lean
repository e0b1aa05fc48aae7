/-! String.length, charAt; Arrays.copyOf -/
def g_J_Pre_checkIndex : xSig := (yJ3_checkIndex_8e157, cJ3_checkIndex_8e157, 3, some .int, { frames := 0, cells := 0, slots := 0, locals := 0 })
def b_J_Pre_checkIndex : SN (SJ g_J_Pre_checkIndex) := sSeq (sIf (dC (cOr (cIf .lt (pIn 0)) (cCm .ge (pIn 0) (pIn 1)))) (sDead 7)) (sR .ireturn (eP (pIn 0)))
def m_J_Pre_checkIndex : {M : xMS // xMeets g_J_Pre_checkIndex M} := ⟨xM g_J_Pre_checkIndex b_J_Pre_checkIndex, xM_meets g_J_Pre_checkIndex b_J_Pre_checkIndex (by decide +kernel) (by decide +kernel)⟩
def g_J_String_checkIndex : xSig := (yJ0_checkIndex_df160, cJ0_checkIndex_df160, 2, none, { frames := 1, cells := 0, slots := 0, locals := 22 })
def b_J_String_checkIndex : SN (SJ g_J_String_checkIndex) := sSeq (sKp (kS g_J_Pre_checkIndex m_J_Pre_checkIndex 1059 (aC (eP (pIn 0)) (aC (eP (pIn 1)) (aC (eSio 1053 (of_decide_eq_true (by decide +kernel))) aN))) (by decide +kernel))) sRv
def m_J_String_checkIndex : {M : xMS // xMeets g_J_String_checkIndex M} := ⟨xM g_J_String_checkIndex b_J_String_checkIndex, xM_meets g_J_String_checkIndex b_J_String_checkIndex (by decide +kernel) (by decide +kernel)⟩
def g_J_Latin1_charAt : xSig := (yJ1_charAt_3b067, cJ1_charAt_3b067, 2, some .char, { frames := 2, cells := 0, slots := 0, locals := 43 })
def b_J_Latin1_charAt : SN (SJ g_J_Latin1_charAt) := sSeq (sK (kS g_J_String_checkIndex m_J_String_checkIndex 9 (aC (eP (pIn 1)) (aC (eP (pU oBln (pAn 0))) aN)) (by decide +kernel))) (sR .ireturn (eP (pU oI2c (pB oAnd (pB oBld (pAn 0) (pIn 1)) (pSi 255)))))
def m_J_Latin1_charAt : {M : xMS // xMeets g_J_Latin1_charAt M} := ⟨xM g_J_Latin1_charAt b_J_Latin1_charAt, xM_meets g_J_Latin1_charAt b_J_Latin1_charAt (by decide +kernel) (by decide +kernel)⟩
def g_J_String_isLatin1 : xSig := (yJ0_isLatin1_aae02, cJ0_isLatin1_aae02, 1, some .boolean, { frames := 0, cells := 0, slots := 0, locals := 0 })
def b_J_String_isLatin1 : SN (SJ g_J_String_isLatin1) := sR .ireturn (eP (pBv (cAnd (cIf .ne (pCs 38 (of_decide_eq_true (by decide +kernel)))) (cIf .eq (pU (oScd 15 (of_decide_eq_true (by decide +kernel))) (pAn 0))))))
def m_J_String_isLatin1 : {M : xMS // xMeets g_J_String_isLatin1 M} := ⟨xM g_J_String_isLatin1 b_J_String_isLatin1, xM_meets g_J_String_isLatin1 b_J_String_isLatin1 (by decide +kernel) (by decide +kernel)⟩
def g_J_String_coder : xSig := (yJ0_coder_7d493, cJ0_coder_7d493, 1, some .byte, { frames := 0, cells := 0, slots := 0, locals := 0 })
def b_J_String_coder : SN (SJ g_J_String_coder) := sR .ireturn (eP (pTn (cIf .ne (pCs 38 (of_decide_eq_true (by decide +kernel)))) (pU (oScd 15 (of_decide_eq_true (by decide +kernel))) (pAn 0)) (pIc 1)))
def m_J_String_coder : {M : xMS // xMeets g_J_String_coder M} := ⟨xM g_J_String_coder b_J_String_coder, xM_meets g_J_String_coder b_J_String_coder (by decide +kernel) (by decide +kernel)⟩
def g_J_String_length : xSig := (yJ0_length_8abf5, cJ0_length_8abf5, 1, some .int, { frames := 1, cells := 0, slots := 0, locals := 20 })
def b_J_String_length : SN (SJ g_J_String_length) := sR .ireturn (eB oShr (eP (pU oBln (pU (oSv 9 (of_decide_eq_true (by decide +kernel))) (pAn 0)))) (eK 1 (kX g_J_String_coder m_J_String_coder 335 (eP (pAn 0)) aN (by decide +kernel))))
def m_J_String_length : {M : xMS // xMeets g_J_String_length M} := ⟨xM g_J_String_length b_J_String_length, xM_meets g_J_String_length b_J_String_length (by decide +kernel) (by decide +kernel)⟩
def g_J_String_charAt : xSig := (yJ0_charAt_5068e, cJ0_charAt_5068e, 2, some .char, { frames := 3, cells := 0, slots := 0, locals := 64 })
def b_J_String_charAt : SN (SJ g_J_String_charAt) := sSeq (sIf (dIf .ne (eK 1 (kX g_J_String_isLatin1 m_J_String_isLatin1 492 (eP (pAn 0)) aN (by decide +kernel)))) (sR .ireturn (eK 1 (kS g_J_Latin1_charAt m_J_Latin1_charAt 495 (aC (eP (pU (oSv 9 (of_decide_eq_true (by decide +kernel))) (pAn 0))) (aC (eP (pIn 1)) aN)) (by decide +kernel))))) (sDead 9)
def m_J_String_charAt : {M : xMS // xMeets g_J_String_charAt M} := ⟨xM g_J_String_charAt b_J_String_charAt, xM_meets g_J_String_charAt b_J_String_charAt (by decide +kernel) (by decide +kernel)⟩
def g_J_Arrays_copyOf : xSig := (yJ7_copyOf_59c91, cJ7_copyOf_59c91, 3, some (.array .int), { frames := 1, cells := 1, slots := 24, locals := 40 })
def b_J_Arrays_copyOf : SN (SJ g_J_Arrays_copyOf) := sSeq (sIf (dC (cCm .eq (pIn 1) (pU (oAlen 0 .int rfl) (pAn 0)))) (sR .areturn (eCl 316 317 (by decide +kernel) (eP (pAn 0))))) (sSeq (sSt (lAn 2) (eNa .int (by simp) (by decide +kernel) (eP (pIn 1)))) (sSeq (sK (kAc 150 (aC (eP (pAn 0)) (aC (eP (pIc 0)) (aC (eP (pAn 2)) (aC (eP (pIc 0)) (aC (eK 1 (kS g_J_Math_min m_J_Math_min 304 (aC (eP (pU (oAlen 0 .int rfl) (pAn 0))) (aC (eP (pIn 1)) aN)) (by decide +kernel))) aN))))) (by decide +kernel))) (sR .areturn (eP (pAn 2)))))
def m_J_Arrays_copyOf : {M : xMS // xMeets g_J_Arrays_copyOf M} := ⟨xM g_J_Arrays_copyOf b_J_Arrays_copyOf, xM_meets g_J_Arrays_copyOf b_J_Arrays_copyOf (by decide +kernel) (by decide +kernel)⟩
/-- if (c) continue: what jumps to the continue goes on at once -/
def sIfC {S : xS} (c : DN S) : SN S := ⟨(c.1.1 + 3, fun cc pc x _ ct => decide (c.1.2.1 ≤ 8) && c.1.2.2.1 false cc pc x ct && ck cc (pc + c.1.1) (.goto ((ct : Int) - ((pc + c.1.1 : Nat) : Int))) 3, fun L k h N _ Ct _ => c.1.2.2.2 L k h (fun v k' h' => if v = true then Ct L k' h' else N L k' h')), by
  intro X C hS pc x bt ct hc hx L k h N B Ct R hs hN hB hCt hR
  obtain ⟨h01, h2⟩ := xand hc
  obtain ⟨h0, h1⟩ := xand h01
  refine c.2 X C hS false pc x ct h1 (fun _ _ _ _ z => x_goto C h2 z) L [] k h _ (by have := of_decide_eq_true h0; simp [xcat]; omega) hs (fun v k' h' hq z => ?_) (fun v k' h' hq z => ?_)
  · subst z; exact hN _ _ _ hq
  · have hv : v = true := by simpa using z
    subst hv
    exact hCt _ _ _ hq⟩
