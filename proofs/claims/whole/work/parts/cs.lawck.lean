/-! the law's bytes are the node's -/
/-- length and check of a node -/
def skl {S : xS} (b : SN S) : Nat × (ByteArray → Nat → Nat → Nat → Nat → Bool) := (b.1.1, b.1.2.1)
theorem skl_1 {S S' : xS} {a : SN S} {a' : SN S'} (h : skl a = skl a') : a.1.1 = a'.1.1 := by
  have z : (skl a).1 = (skl a').1 := by rw [h]
  exact z
theorem skl_2 {S S' : xS} {a : SN S} {a' : SN S'} (h : skl a = skl a') : a.1.2.1 = a'.1.2.1 := by
  have z : (skl a).2 = (skl a').2 := by rw [h]
  exact z
theorem skl_Seq {S S' : xS} {a b : SN S} {a' b' : SN S'} (h1 : skl a = skl a') (h2 : skl b = skl b') : skl (sSeq a b) = skl (sSeq a' b') := by
  show (a.1.1 + b.1.1, fun cc pc x bt ct => a.1.2.1 cc pc (pc + a.1.1) bt ct && b.1.2.1 cc (pc + a.1.1) x bt ct) = (a'.1.1 + b'.1.1, fun cc pc x bt ct => a'.1.2.1 cc pc (pc + a'.1.1) bt ct && b'.1.2.1 cc (pc + a'.1.1) x bt ct)
  rw [skl_1 h1, skl_1 h2, skl_2 h1, skl_2 h2]
theorem skl_Sc {S S' : xS} {a : SN S} {a' : SN S'} (h1 : skl a = skl a') : skl (sSc a) = skl (sSc a') := by
  show (a.1.1, fun (cc : ByteArray) (pc _ bt ct : Nat) => a.1.2.1 cc pc (pc + a.1.1) bt ct) = (a'.1.1, fun (cc : ByteArray) (pc _ bt ct : Nat) => a'.1.2.1 cc pc (pc + a'.1.1) bt ct)
  rw [skl_1 h1, skl_2 h1]
theorem skl_Lp {S S' : xS} {c : DN S} {c' : DN S'} {b u : SN S} {b' u' : SN S'} (c1 : c.1.1 = c'.1.1) (c2 : c.1.2.1 = c'.1.2.1) (c3 : c.1.2.2.1 = c'.1.2.2.1) (h1 : skl b = skl b') (h2 : skl u = skl u') : skl (sLp c b u false) = skl (sLp c' b' u' false) := by
  show (c.1.1 + b.1.1 + u.1.1 + 3, fun (cc : ByteArray) (pc x _ _ : Nat) => decide (c.1.2.1 ≤ 8) && c.1.2.2.1 false cc pc x (pc + c.1.1) && b.1.2.1 cc (pc + c.1.1) (if false = true then pc else pc + c.1.1 + b.1.1) x (if false = true then pc else pc + c.1.1 + b.1.1) && u.1.2.1 cc (pc + c.1.1 + b.1.1) (pc + c.1.1 + b.1.1 + u.1.1) 0 0 && ck cc (pc + c.1.1 + b.1.1 + u.1.1) (.goto ((pc : Int) - ((pc + c.1.1 + b.1.1 + u.1.1 : Nat) : Int))) 3 && (!false || decide (u.1.1 = 0))) = (c'.1.1 + b'.1.1 + u'.1.1 + 3, fun (cc : ByteArray) (pc x _ _ : Nat) => decide (c'.1.2.1 ≤ 8) && c'.1.2.2.1 false cc pc x (pc + c'.1.1) && b'.1.2.1 cc (pc + c'.1.1) (if false = true then pc else pc + c'.1.1 + b'.1.1) x (if false = true then pc else pc + c'.1.1 + b'.1.1) && u'.1.2.1 cc (pc + c'.1.1 + b'.1.1) (pc + c'.1.1 + b'.1.1 + u'.1.1) 0 0 && ck cc (pc + c'.1.1 + b'.1.1 + u'.1.1) (.goto ((pc : Int) - ((pc + c'.1.1 + b'.1.1 + u'.1.1 : Nat) : Int))) 3 && (!false || decide (u'.1.1 = 0)))
  rw [c1, c2, c3, skl_1 h1, skl_1 h2, skl_2 h1, skl_2 h2]
theorem sk_xbl {S S' : xS} : ∀ {bs : List (SN S)} {bs' : List (SN S')}, bs.map skl = bs'.map skl → xbl bs = xbl bs'
  | [], [], _ => rfl
  | [], b' :: _, h => by simp at h
  | b :: _, [], h => by simp at h
  | b :: bs, b' :: bs', h => by
    rw [List.map_cons, List.map_cons, List.cons.injEq] at h
    have ih := sk_xbl h.2
    rw [xbl, xbl, List.map_cons, List.map_cons, List.sum_cons, List.sum_cons, skl_1 h.1]
    exact congrArg _ ih
theorem sk_xbc {S S' : xS} {cc : ByteArray} {x ct : Nat} : ∀ {bs : List (SN S)} {bs' : List (SN S')} (pc : Nat), bs.map skl = bs'.map skl → xbc cc x ct pc bs = xbc cc x ct pc bs'
  | [], [], _, _ => rfl
  | [], b' :: _, _, h => by simp at h
  | b :: _, [], _, h => by simp at h
  | b :: bs, b' :: bs', pc, h => by
    rw [List.map_cons, List.map_cons, List.cons.injEq] at h
    have ie : bs.isEmpty = bs'.isEmpty := by
      cases bs with
      | nil => cases bs' with
        | nil => rfl
        | cons _ _ => simp at h
      | cons _ _ => cases bs' with
        | nil => simp at h
        | cons _ _ => rfl
    rw [xbc, xbc, skl_1 h.1, skl_2 h.1, ie, sk_xbc _ h.2]
theorem skl_Sw {S S' : xS} {e : EN S} {e' : EN S'} {pad : Nat} {lo : Int} {tab : List Nat} {df : Nat} {bs : List (SN S)} {bs' : List (SN S')} (e1 : e.1.1 = e'.1.1) (e2 : e.1.2.2.1 = e'.1.2.2.1) (e3 : e.1.2.2.2.1 = e'.1.2.2.2.1) (h : bs.map skl = bs'.map skl) : skl (sSw e pad lo tab df bs) = skl (sSw e' pad lo tab df bs') := by
  have hl : bs.length = bs'.length := by have := congrArg List.length h; rwa [List.length_map, List.length_map] at this
  have ht : ∀ j, xbl (bs.take j) = xbl (bs'.take j) := fun j => sk_xbl (by rw [List.map_take, List.map_take, h])
  have hc : ∀ cc x ct pc, xbc cc x ct pc bs = xbc cc x ct pc bs' := fun cc x ct pc => sk_xbc pc h
  show (e.1.1 + (13 + pad + 4 * tab.length) + xbl bs, fun (cc : ByteArray) (pc x _ ct : Nat) => decide (e.1.2.2.1 ≤ 8) && decide (df ≤ bs.length) && tab.all (fun j => decide (j ≤ bs.length)) && e.1.2.2.2.1 cc pc (pc + e.1.1) && ck cc (pc + e.1.1) (.tableswitch (((pc + e.1.1 + (13 + pad + 4 * tab.length) + xbl (bs.take df) : Nat) : Int) - ((pc + e.1.1 : Nat) : Int)) lo (lo + tab.length - 1) ((tab.map (fun j => pc + e.1.1 + (13 + pad + 4 * tab.length) + xbl (bs.take j))).map (fun t => ((t : Nat) : Int) - ((pc + e.1.1 : Nat) : Int))).toArray) (13 + pad + 4 * tab.length) && xbc cc x ct (pc + e.1.1 + (13 + pad + 4 * tab.length)) bs) = (e'.1.1 + (13 + pad + 4 * tab.length) + xbl bs', fun (cc : ByteArray) (pc x _ ct : Nat) => decide (e'.1.2.2.1 ≤ 8) && decide (df ≤ bs'.length) && tab.all (fun j => decide (j ≤ bs'.length)) && e'.1.2.2.2.1 cc pc (pc + e'.1.1) && ck cc (pc + e'.1.1) (.tableswitch (((pc + e'.1.1 + (13 + pad + 4 * tab.length) + xbl (bs'.take df) : Nat) : Int) - ((pc + e'.1.1 : Nat) : Int)) lo (lo + tab.length - 1) ((tab.map (fun j => pc + e'.1.1 + (13 + pad + 4 * tab.length) + xbl (bs'.take j))).map (fun t => ((t : Nat) : Int) - ((pc + e'.1.1 : Nat) : Int))).toArray) (13 + pad + 4 * tab.length) && xbc cc x ct (pc + e'.1.1 + (13 + pad + 4 * tab.length)) bs')
  have hb := sk_xbl h
  simp only [e1, e2, e3, hl, ht, hc, hb]
section
variable {S : xS}
theorem k_ifB1 (c : DN S) (a : SN S) : (sIfB c a).1.1 = c.1.1 + a.1.1 := rfl
theorem k_ifB2 (c : DN S) (a : SN S) : (sIfB c a).1.2.1 = fun cc pc _ bt ct => decide (c.1.2.1 ≤ 8) && c.1.2.2.1 false cc pc bt (pc + c.1.1) && a.1.2.1 cc (pc + c.1.1) (pc + c.1.1 + a.1.1) bt ct := rfl
theorem k_dCm1 (c : ClassFile.Cond) (a e : EN S) : (dCm c a e).1.1 = a.1.1 + e.1.1 + 3 := rfl
theorem k_dCm2 (c : ClassFile.Cond) (a e : EN S) : (dCm c a e).1.2.1 = max a.1.2.2.1 (a.1.2.1 + e.1.2.2.1) := rfl
theorem k_dCm3 (c : ClassFile.Cond) (a e : EN S) : (dCm c a e).1.2.2.1 = fun (b : Bool) (cc : ByteArray) (pc tgt _ : Nat) => a.1.2.2.2.1 cc pc (pc + a.1.1) && e.1.2.2.2.1 cc (pc + a.1.1) (pc + a.1.1 + e.1.1) && ck cc (pc + a.1.1 + e.1.1) (.if_icmp (xsel b c) ((tgt : Int) - ((pc + a.1.1 + e.1.1 : Nat) : Int))) 3 := rfl
theorem k_eK1 (cat : Nat) (c : KN S) : (eK cat c).1.1 = c.1.1 := rfl
theorem k_eK2 (cat : Nat) (c : KN S) : (eK cat c).1.2.1 = cat := rfl
theorem k_eK3 (cat : Nat) (c : KN S) : (eK cat c).1.2.2.1 = c.1.2.1 := rfl
theorem k_eK4 (cat : Nat) (c : KN S) : (eK cat c).1.2.2.2.1 = fun cc pc _ => c.1.2.2.1 cc pc := rfl
theorem k_kV1 (g : xSig) (M : {M : xMS // xMeets g M}) (i ci : Nat) (o : EN S) (a : AN S) (hok : xcV S g i a.1.2.1 ci = true) : (kV g M i ci o a hok).1.1 = o.1.1 + a.1.1 + 3 := rfl
theorem k_kV2 (g : xSig) (M : {M : xMS // xMeets g M}) (i ci : Nat) (o : EN S) (a : AN S) (hok : xcV S g i a.1.2.1 ci = true) : (kV g M i ci o a hok).1.2.1 = max o.1.2.2.1 (o.1.2.1 + a.1.2.2.1) := rfl
theorem k_kV3 (g : xSig) (M : {M : xMS // xMeets g M}) (i ci : Nat) (o : EN S) (a : AN S) (hok : xcV S g i a.1.2.1 ci = true) : (kV g M i ci o a hok).1.2.2.1 = fun cc pc => o.1.2.2.2.1 cc pc (pc + o.1.1) && a.1.2.2.2.1 cc (pc + o.1.1) && ck cc (pc + o.1.1 + a.1.1) (.invokevirtual i) 3 := rfl
theorem k_aC1 (a : EN S) (r : AN S) : (aC a r).1.1 = a.1.1 + r.1.1 := rfl
theorem k_aC3 (a : EN S) (r : AN S) : (aC a r).1.2.2.1 = max a.1.2.2.1 (a.1.2.1 + r.1.2.2.1) := rfl
theorem k_aC4 (a : EN S) (r : AN S) : (aC a r).1.2.2.2.1 = fun cc pc => a.1.2.2.2.1 cc pc (pc + a.1.1) && r.1.2.2.2.1 cc (pc + a.1.1) := rfl
theorem k_aE1 (a : EN S) : (aE a).1.1 = a.1.1 := rfl
theorem k_aE3 (a : EN S) : (aE a).1.2.2.1 = a.1.2.2.1 := rfl
theorem k_aE4 (a : EN S) : (aE a).1.2.2.2.1 = fun cc pc => a.1.2.2.2.1 cc pc (pc + a.1.1) := rfl
theorem k_aN1 : (aN : AN S).1.1 = 0 := rfl
theorem k_aN3 : (aN : AN S).1.2.2.1 = 0 := rfl
theorem k_aN4 : (aN : AN S).1.2.2.2.1 = fun _ _ => true := rfl
theorem k_eP1 (a : PN S) : (eP a).1.1 = a.1.1 := rfl
theorem k_eP2 (a : PN S) : (eP a).1.2.1 = a.1.2.1 := rfl
theorem k_eP3 (a : PN S) : (eP a).1.2.2.1 = 0 := rfl
theorem k_eP4 (a : PN S) : (eP a).1.2.2.2.1 = a.1.2.2.1 := rfl
theorem k_pB1 (o : BO S) (a b : PN S) : (pB o a b).1.1 = a.1.1 + b.1.1 + o.1.2.1 := rfl
theorem k_pB2 (o : BO S) (a b : PN S) : (pB o a b).1.2.1 = o.1.2.2.1 := rfl
theorem k_pB3 (o : BO S) (a b : PN S) : (pB o a b).1.2.2.1 = fun cc pc _ => a.1.2.2.1 cc pc (pc + a.1.1) && b.1.2.2.1 cc (pc + a.1.1) (pc + a.1.1 + b.1.1) && ck cc (pc + a.1.1 + b.1.1) o.1.1 o.1.2.1 := rfl
theorem k_pAn1 (i : Fin 4) : (pAn i : PN S).1.1 = 1 := rfl
theorem k_pAn2 (i : Fin 4) : (pAn i : PN S).1.2.1 = 1 := rfl
theorem k_pAn3 (i : Fin 4) : (pAn i : PN S).1.2.2.1 = fun cc pc _ => ck cc pc (.aload_n i) 1 := rfl
theorem k_pIn1 (i : Fin 4) : (pIn i : PN S).1.1 = 1 := rfl
theorem k_pIn2 (i : Fin 4) : (pIn i : PN S).1.2.1 = 1 := rfl
theorem k_pIn3 (i : Fin 4) : (pIn i : PN S).1.2.2.1 = fun cc pc _ => ck cc pc (.iload_n i) 1 := rfl
theorem k_pIc1 (i : Int) : (pIc i : PN S).1.1 = 1 := rfl
theorem k_pIc2 (i : Int) : (pIc i : PN S).1.2.1 = 1 := rfl
theorem k_pIc3 (i : Int) : (pIc i : PN S).1.2.2.1 = fun cc pc _ => ck cc pc (.iconst i) 1 := rfl
theorem k_pBi1 (i : Int) : (pBi i : PN S).1.1 = 2 := rfl
theorem k_pBi2 (i : Int) : (pBi i : PN S).1.2.1 = 1 := rfl
theorem k_pBi3 (i : Int) : (pBi i : PN S).1.2.2.1 = fun cc pc _ => ck cc pc (.bipush i) 2 := rfl
theorem k_oAdd1 : (oAdd : BO S).1.1 = .iadd := rfl
theorem k_oAdd2 : (oAdd : BO S).1.2.1 = 1 := rfl
theorem k_oAdd3 : (oAdd : BO S).1.2.2.1 = 1 := rfl
theorem k_oScr1 (P : Nat × (Nat → Int32)) (hP : S.2.1.2 = some P) : (oScr P hP : BO S).1.1 = .iaload := rfl
theorem k_oScr2 (P : Nat × (Nat → Int32)) (hP : S.2.1.2 = some P) : (oScr P hP : BO S).1.2.1 = 1 := rfl
theorem k_oScr3 (P : Nat × (Nat → Int32)) (hP : S.2.1.2 = some P) : (oScr P hP : BO S).1.2.2.1 = 1 := rfl
theorem k_sR1 (i : Instr) (e : EN S) : (sR i e).1.1 = e.1.1 + 1 := rfl
theorem k_sR2 (i : Instr) (e : EN S) : (sR i e).1.2.1 = fun cc pc _ _ _ => decide (e.1.2.2.1 ≤ 8) && e.1.2.2.2.1 cc pc (pc + e.1.1) && ck cc (pc + e.1.1) i 1 := rfl
end
theorem lk0 (P : Nat × (Nat → Int32)) : skl (lc0 P) = skl (lc0 (0, fun _ => 0)) := by
  simp only [skl, lc0, k_ifB1, k_ifB2, k_dCm1, k_dCm2, k_dCm3, k_eK1, k_eK2, k_eK3, k_eK4, k_kV1, k_kV2, k_kV3, k_aC1, k_aC3, k_aC4, k_aN1, k_aN3, k_aN4, k_eP1, k_eP2, k_eP3, k_eP4, k_pB1, k_pB2, k_pB3, k_pAn1, k_pAn2, k_pAn3, k_pIn1, k_pIn2, k_pIn3, k_pIc1, k_pIc2, k_pIc3, k_pBi1, k_pBi2, k_pBi3, k_oAdd1, k_oAdd2, k_oAdd3, k_oScr1, k_oScr2, k_oScr3, k_sR1, k_sR2]
  rfl
theorem lk1 (P : Nat × (Nat → Int32)) : skl (lc1 P) = skl (lc1 (0, fun _ => 0)) := by
  simp only [skl, lc1, k_ifB1, k_ifB2, k_dCm1, k_dCm2, k_dCm3, k_eK1, k_eK2, k_eK3, k_eK4, k_kV1, k_kV2, k_kV3, k_aC1, k_aC3, k_aC4, k_aN1, k_aN3, k_aN4, k_eP1, k_eP2, k_eP3, k_eP4, k_pB1, k_pB2, k_pB3, k_pAn1, k_pAn2, k_pAn3, k_pIn1, k_pIn2, k_pIn3, k_pIc1, k_pIc2, k_pIc3, k_pBi1, k_pBi2, k_pBi3, k_oAdd1, k_oAdd2, k_oAdd3, k_oScr1, k_oScr2, k_oScr3, k_sR1, k_sR2]
  rfl
theorem lk2 (P : Nat × (Nat → Int32)) : skl (lc2 P) = skl (lc2 (0, fun _ => 0)) := by
  simp only [skl, lc2, k_ifB1, k_ifB2, k_dCm1, k_dCm2, k_dCm3, k_eK1, k_eK2, k_eK3, k_eK4, k_kV1, k_kV2, k_kV3, k_aC1, k_aC3, k_aC4, k_aN1, k_aN3, k_aN4, k_eP1, k_eP2, k_eP3, k_eP4, k_pB1, k_pB2, k_pB3, k_pAn1, k_pAn2, k_pAn3, k_pIn1, k_pIn2, k_pIn3, k_pIc1, k_pIc2, k_pIc3, k_pBi1, k_pBi2, k_pBi3, k_oAdd1, k_oAdd2, k_oAdd3, k_oScr1, k_oScr2, k_oScr3, k_sR1, k_sR2]
  rfl
theorem lk3 (P : Nat × (Nat → Int32)) : skl (lc3 P) = skl (lc3 (0, fun _ => 0)) := by
  simp only [skl, lc3, k_ifB1, k_ifB2, k_dCm1, k_dCm2, k_dCm3, k_eK1, k_eK2, k_eK3, k_eK4, k_kV1, k_kV2, k_kV3, k_aC1, k_aC3, k_aC4, k_aN1, k_aN3, k_aN4, k_eP1, k_eP2, k_eP3, k_eP4, k_pB1, k_pB2, k_pB3, k_pAn1, k_pAn2, k_pAn3, k_pIn1, k_pIn2, k_pIn3, k_pIc1, k_pIc2, k_pIc3, k_pBi1, k_pBi2, k_pBi3, k_oAdd1, k_oAdd2, k_oAdd3, k_oScr1, k_oScr2, k_oScr3, k_sR1, k_sR2]
  rfl
theorem lk4 (P : Nat × (Nat → Int32)) : skl (lc4 P) = skl (lc4 (0, fun _ => 0)) := by
  simp only [skl, lc4, k_ifB1, k_ifB2, k_dCm1, k_dCm2, k_dCm3, k_eK1, k_eK2, k_eK3, k_eK4, k_kV1, k_kV2, k_kV3, k_aC1, k_aC3, k_aC4, k_aN1, k_aN3, k_aN4, k_eP1, k_eP2, k_eP3, k_eP4, k_pB1, k_pB2, k_pB3, k_pAn1, k_pAn2, k_pAn3, k_pIn1, k_pIn2, k_pIn3, k_pIc1, k_pIc2, k_pIc3, k_pBi1, k_pBi2, k_pBi3, k_oAdd1, k_oAdd2, k_oAdd3, k_oScr1, k_oScr2, k_oScr3, k_sR1, k_sR2]
  rfl
theorem lk5 (P : Nat × (Nat → Int32)) : skl (lc5 P) = skl (lc5 (0, fun _ => 0)) := by
  simp only [skl, lc5, k_ifB1, k_ifB2, k_dCm1, k_dCm2, k_dCm3, k_eK1, k_eK2, k_eK3, k_eK4, k_kV1, k_kV2, k_kV3, k_aC1, k_aC3, k_aC4, k_aN1, k_aN3, k_aN4, k_eP1, k_eP2, k_eP3, k_eP4, k_pB1, k_pB2, k_pB3, k_pAn1, k_pAn2, k_pAn3, k_pIn1, k_pIn2, k_pIn3, k_pIc1, k_pIc2, k_pIc3, k_pBi1, k_pBi2, k_pBi3, k_oAdd1, k_oAdd2, k_oAdd3, k_oScr1, k_oScr2, k_oScr3, k_sR1, k_sR2]
  rfl
theorem lk6 (P : Nat × (Nat → Int32)) : skl (lc6 P) = skl (lc6 (0, fun _ => 0)) := by
  simp only [skl, lc6, k_ifB1, k_ifB2, k_dCm1, k_dCm2, k_dCm3, k_eK1, k_eK2, k_eK3, k_eK4, k_kV1, k_kV2, k_kV3, k_aC1, k_aC3, k_aC4, k_aN1, k_aN3, k_aN4, k_eP1, k_eP2, k_eP3, k_eP4, k_pB1, k_pB2, k_pB3, k_pAn1, k_pAn2, k_pAn3, k_pIn1, k_pIn2, k_pIn3, k_pIc1, k_pIc2, k_pIc3, k_pBi1, k_pBi2, k_pBi3, k_oAdd1, k_oAdd2, k_oAdd3, k_oScr1, k_oScr2, k_oScr3, k_sR1, k_sR2]
  rfl
theorem lk7 (P : Nat × (Nat → Int32)) : skl (lc7 P) = skl (lc7 (0, fun _ => 0)) := by
  simp only [skl, lc7, k_ifB1, k_ifB2, k_dCm1, k_dCm2, k_dCm3, k_eK1, k_eK2, k_eK3, k_eK4, k_kV1, k_kV2, k_kV3, k_aC1, k_aC3, k_aC4, k_aN1, k_aN3, k_aN4, k_eP1, k_eP2, k_eP3, k_eP4, k_pB1, k_pB2, k_pB3, k_pAn1, k_pAn2, k_pAn3, k_pIn1, k_pIn2, k_pIn3, k_pIc1, k_pIc2, k_pIc3, k_pBi1, k_pBi2, k_pBi3, k_oAdd1, k_oAdd2, k_oAdd3, k_oScr1, k_oScr2, k_oScr3, k_sR1, k_sR2]
  rfl
theorem lk8 (P : Nat × (Nat → Int32)) : skl (lc8 P) = skl (lc8 (0, fun _ => 0)) := by
  simp only [skl, lc8, k_ifB1, k_ifB2, k_dCm1, k_dCm2, k_dCm3, k_eK1, k_eK2, k_eK3, k_eK4, k_kV1, k_kV2, k_kV3, k_aC1, k_aC3, k_aC4, k_aN1, k_aN3, k_aN4, k_eP1, k_eP2, k_eP3, k_eP4, k_pB1, k_pB2, k_pB3, k_pAn1, k_pAn2, k_pAn3, k_pIn1, k_pIn2, k_pIn3, k_pIc1, k_pIc2, k_pIc3, k_pBi1, k_pBi2, k_pBi3, k_oAdd1, k_oAdd2, k_oAdd3, k_oScr1, k_oScr2, k_oScr3, k_sR1, k_sR2]
  rfl
theorem lk9 (P : Nat × (Nat → Int32)) : skl (lc9 P) = skl (lc9 (0, fun _ => 0)) := by
  simp only [skl, lc9, k_ifB1, k_ifB2, k_dCm1, k_dCm2, k_dCm3, k_eK1, k_eK2, k_eK3, k_eK4, k_kV1, k_kV2, k_kV3, k_aC1, k_aC3, k_aC4, k_aN1, k_aN3, k_aN4, k_eP1, k_eP2, k_eP3, k_eP4, k_pB1, k_pB2, k_pB3, k_pAn1, k_pAn2, k_pAn3, k_pIn1, k_pIn2, k_pIn3, k_pIc1, k_pIc2, k_pIc3, k_pBi1, k_pBi2, k_pBi3, k_oAdd1, k_oAdd2, k_oAdd3, k_oScr1, k_oScr2, k_oScr3, k_sR1, k_sR2]
  rfl
theorem lk10 (P : Nat × (Nat → Int32)) : skl (lc10 P) = skl (lc10 (0, fun _ => 0)) := by
  simp only [skl, lc10, k_ifB1, k_ifB2, k_dCm1, k_dCm2, k_dCm3, k_eK1, k_eK2, k_eK3, k_eK4, k_kV1, k_kV2, k_kV3, k_aC1, k_aC3, k_aC4, k_aN1, k_aN3, k_aN4, k_eP1, k_eP2, k_eP3, k_eP4, k_pB1, k_pB2, k_pB3, k_pAn1, k_pAn2, k_pAn3, k_pIn1, k_pIn2, k_pIn3, k_pIc1, k_pIc2, k_pIc3, k_pBi1, k_pBi2, k_pBi3, k_oAdd1, k_oAdd2, k_oAdd3, k_oScr1, k_oScr2, k_oScr3, k_sR1, k_sR2]
  rfl
theorem lk11 (P : Nat × (Nat → Int32)) : skl (lc11 P) = skl (lc11 (0, fun _ => 0)) := by
  simp only [skl, lc11, k_ifB1, k_ifB2, k_dCm1, k_dCm2, k_dCm3, k_eK1, k_eK2, k_eK3, k_eK4, k_kV1, k_kV2, k_kV3, k_aC1, k_aC3, k_aC4, k_aN1, k_aN3, k_aN4, k_eP1, k_eP2, k_eP3, k_eP4, k_pB1, k_pB2, k_pB3, k_pAn1, k_pAn2, k_pAn3, k_pIn1, k_pIn2, k_pIn3, k_pIc1, k_pIc2, k_pIc3, k_pBi1, k_pBi2, k_pBi3, k_oAdd1, k_oAdd2, k_oAdd3, k_oScr1, k_oScr2, k_oScr3, k_sR1, k_sR2]
  rfl
theorem lk12 (P : Nat × (Nat → Int32)) : skl (lc12 P) = skl (lc12 (0, fun _ => 0)) := by
  simp only [skl, lc12, k_ifB1, k_ifB2, k_dCm1, k_dCm2, k_dCm3, k_eK1, k_eK2, k_eK3, k_eK4, k_kV1, k_kV2, k_kV3, k_aC1, k_aC3, k_aC4, k_aN1, k_aN3, k_aN4, k_eP1, k_eP2, k_eP3, k_eP4, k_pB1, k_pB2, k_pB3, k_pAn1, k_pAn2, k_pAn3, k_pIn1, k_pIn2, k_pIn3, k_pIc1, k_pIc2, k_pIc3, k_pBi1, k_pBi2, k_pBi3, k_oAdd1, k_oAdd2, k_oAdd3, k_oScr1, k_oScr2, k_oScr3, k_sR1, k_sR2]
  rfl
theorem lk13 (P : Nat × (Nat → Int32)) : skl (lc13 P) = skl (lc13 (0, fun _ => 0)) := by
  simp only [skl, lc13, k_ifB1, k_ifB2, k_dCm1, k_dCm2, k_dCm3, k_eK1, k_eK2, k_eK3, k_eK4, k_kV1, k_kV2, k_kV3, k_aC1, k_aC3, k_aC4, k_aN1, k_aN3, k_aN4, k_eP1, k_eP2, k_eP3, k_eP4, k_pB1, k_pB2, k_pB3, k_pAn1, k_pAn2, k_pAn3, k_pIn1, k_pIn2, k_pIn3, k_pIc1, k_pIc2, k_pIc3, k_pBi1, k_pBi2, k_pBi3, k_oAdd1, k_oAdd2, k_oAdd3, k_oScr1, k_oScr2, k_oScr3, k_sR1, k_sR2]
  rfl
theorem lk14 (P : Nat × (Nat → Int32)) : skl (lc14 P) = skl (lc14 (0, fun _ => 0)) := by
  simp only [skl, lc14, k_ifB1, k_ifB2, k_dCm1, k_dCm2, k_dCm3, k_eK1, k_eK2, k_eK3, k_eK4, k_kV1, k_kV2, k_kV3, k_aC1, k_aC3, k_aC4, k_aN1, k_aN3, k_aN4, k_eP1, k_eP2, k_eP3, k_eP4, k_pB1, k_pB2, k_pB3, k_pAn1, k_pAn2, k_pAn3, k_pIn1, k_pIn2, k_pIn3, k_pIc1, k_pIc2, k_pIc3, k_pBi1, k_pBi2, k_pBi3, k_oAdd1, k_oAdd2, k_oAdd3, k_oScr1, k_oScr2, k_oScr3, k_sR1, k_sR2]
  rfl
theorem lk15 (P : Nat × (Nat → Int32)) : skl (lc15 P) = skl (lc15 (0, fun _ => 0)) := by
  simp only [skl, lc15, k_ifB1, k_ifB2, k_dCm1, k_dCm2, k_dCm3, k_eK1, k_eK2, k_eK3, k_eK4, k_kV1, k_kV2, k_kV3, k_aC1, k_aC3, k_aC4, k_aN1, k_aN3, k_aN4, k_eP1, k_eP2, k_eP3, k_eP4, k_pB1, k_pB2, k_pB3, k_pAn1, k_pAn2, k_pAn3, k_pIn1, k_pIn2, k_pIn3, k_pIc1, k_pIc2, k_pIc3, k_pBi1, k_pBi2, k_pBi3, k_oAdd1, k_oAdd2, k_oAdd3, k_oScr1, k_oScr2, k_oScr3, k_sR1, k_sR2]
  rfl
theorem lk16 (P : Nat × (Nat → Int32)) : skl (lc16 P) = skl (lc16 (0, fun _ => 0)) := by
  simp only [skl, lc16, k_ifB1, k_ifB2, k_dCm1, k_dCm2, k_dCm3, k_eK1, k_eK2, k_eK3, k_eK4, k_kV1, k_kV2, k_kV3, k_aC1, k_aC3, k_aC4, k_aN1, k_aN3, k_aN4, k_eP1, k_eP2, k_eP3, k_eP4, k_pB1, k_pB2, k_pB3, k_pAn1, k_pAn2, k_pAn3, k_pIn1, k_pIn2, k_pIn3, k_pIc1, k_pIc2, k_pIc3, k_pBi1, k_pBi2, k_pBi3, k_oAdd1, k_oAdd2, k_oAdd3, k_oScr1, k_oScr2, k_oScr3, k_sR1, k_sR2]
  rfl
theorem lk17 (P : Nat × (Nat → Int32)) : skl (lc17 P) = skl (lc17 (0, fun _ => 0)) := by
  simp only [skl, lc17, k_ifB1, k_ifB2, k_dCm1, k_dCm2, k_dCm3, k_eK1, k_eK2, k_eK3, k_eK4, k_kV1, k_kV2, k_kV3, k_aC1, k_aC3, k_aC4, k_aN1, k_aN3, k_aN4, k_eP1, k_eP2, k_eP3, k_eP4, k_pB1, k_pB2, k_pB3, k_pAn1, k_pAn2, k_pAn3, k_pIn1, k_pIn2, k_pIn3, k_pIc1, k_pIc2, k_pIc3, k_pBi1, k_pBi2, k_pBi3, k_oAdd1, k_oAdd2, k_oAdd3, k_oScr1, k_oScr2, k_oScr3, k_sR1, k_sR2]
  rfl
theorem lk18 (P : Nat × (Nat → Int32)) : skl (lc18 P) = skl (lc18 (0, fun _ => 0)) := by
  simp only [skl, lc18, k_ifB1, k_ifB2, k_dCm1, k_dCm2, k_dCm3, k_eK1, k_eK2, k_eK3, k_eK4, k_kV1, k_kV2, k_kV3, k_aC1, k_aC3, k_aC4, k_aN1, k_aN3, k_aN4, k_eP1, k_eP2, k_eP3, k_eP4, k_pB1, k_pB2, k_pB3, k_pAn1, k_pAn2, k_pAn3, k_pIn1, k_pIn2, k_pIn3, k_pIc1, k_pIc2, k_pIc3, k_pBi1, k_pBi2, k_pBi3, k_oAdd1, k_oAdd2, k_oAdd3, k_oScr1, k_oScr2, k_oScr3, k_sR1, k_sR2]
  rfl
theorem lk19 (P : Nat × (Nat → Int32)) : skl (lc19 P) = skl (lc19 (0, fun _ => 0)) := by
  simp only [skl, lc19, k_ifB1, k_ifB2, k_dCm1, k_dCm2, k_dCm3, k_eK1, k_eK2, k_eK3, k_eK4, k_kV1, k_kV2, k_kV3, k_aC1, k_aC3, k_aC4, k_aN1, k_aN3, k_aN4, k_eP1, k_eP2, k_eP3, k_eP4, k_pB1, k_pB2, k_pB3, k_pAn1, k_pAn2, k_pAn3, k_pIn1, k_pIn2, k_pIn3, k_pIc1, k_pIc2, k_pIc3, k_pBi1, k_pBi2, k_pBi3, k_oAdd1, k_oAdd2, k_oAdd3, k_oScr1, k_oScr2, k_oScr3, k_sR1, k_sR2]
  rfl
theorem lk20 (P : Nat × (Nat → Int32)) : skl (lc20 P) = skl (lc20 (0, fun _ => 0)) := by
  simp only [skl, lc20, k_ifB1, k_ifB2, k_dCm1, k_dCm2, k_dCm3, k_eK1, k_eK2, k_eK3, k_eK4, k_kV1, k_kV2, k_kV3, k_aC1, k_aC3, k_aC4, k_aN1, k_aN3, k_aN4, k_eP1, k_eP2, k_eP3, k_eP4, k_pB1, k_pB2, k_pB3, k_pAn1, k_pAn2, k_pAn3, k_pIn1, k_pIn2, k_pIn3, k_pIc1, k_pIc2, k_pIc3, k_pBi1, k_pBi2, k_pBi3, k_oAdd1, k_oAdd2, k_oAdd3, k_oScr1, k_oScr2, k_oScr3, k_sR1, k_sR2]
  rfl
theorem lk21 (P : Nat × (Nat → Int32)) : skl (lc21 P) = skl (lc21 (0, fun _ => 0)) := by
  simp only [skl, lc21, k_ifB1, k_ifB2, k_dCm1, k_dCm2, k_dCm3, k_eK1, k_eK2, k_eK3, k_eK4, k_kV1, k_kV2, k_kV3, k_aC1, k_aC3, k_aC4, k_aN1, k_aN3, k_aN4, k_eP1, k_eP2, k_eP3, k_eP4, k_pB1, k_pB2, k_pB3, k_pAn1, k_pAn2, k_pAn3, k_pIn1, k_pIn2, k_pIn3, k_pIc1, k_pIc2, k_pIc3, k_pBi1, k_pBi2, k_pBi3, k_oAdd1, k_oAdd2, k_oAdd3, k_oScr1, k_oScr2, k_oScr3, k_sR1, k_sR2]
  rfl
theorem lk22 (P : Nat × (Nat → Int32)) : skl (lc22 P) = skl (lc22 (0, fun _ => 0)) := by
  simp only [skl, lc22, k_ifB1, k_ifB2, k_dCm1, k_dCm2, k_dCm3, k_eK1, k_eK2, k_eK3, k_eK4, k_kV1, k_kV2, k_kV3, k_aC1, k_aC3, k_aC4, k_aN1, k_aN3, k_aN4, k_eP1, k_eP2, k_eP3, k_eP4, k_pB1, k_pB2, k_pB3, k_pAn1, k_pAn2, k_pAn3, k_pIn1, k_pIn2, k_pIn3, k_pIc1, k_pIc2, k_pIc3, k_pBi1, k_pBi2, k_pBi3, k_oAdd1, k_oAdd2, k_oAdd3, k_oScr1, k_oScr2, k_oScr3, k_sR1, k_sR2]
  rfl
theorem lk23 (P : Nat × (Nat → Int32)) : skl (lc23 P) = skl (lc23 (0, fun _ => 0)) := by
  simp only [skl, lc23, k_ifB1, k_ifB2, k_dCm1, k_dCm2, k_dCm3, k_eK1, k_eK2, k_eK3, k_eK4, k_kV1, k_kV2, k_kV3, k_aC1, k_aC3, k_aC4, k_aN1, k_aN3, k_aN4, k_eP1, k_eP2, k_eP3, k_eP4, k_pB1, k_pB2, k_pB3, k_pAn1, k_pAn2, k_pAn3, k_pIn1, k_pIn2, k_pIn3, k_pIc1, k_pIc2, k_pIc3, k_pBi1, k_pBi2, k_pBi3, k_oAdd1, k_oAdd2, k_oAdd3, k_oScr1, k_oScr2, k_oScr3, k_sR1, k_sR2]
  rfl
theorem lk24 (P : Nat × (Nat → Int32)) : skl (lc24 P) = skl (lc24 (0, fun _ => 0)) := by
  simp only [skl, lc24, k_ifB1, k_ifB2, k_dCm1, k_dCm2, k_dCm3, k_eK1, k_eK2, k_eK3, k_eK4, k_kV1, k_kV2, k_kV3, k_aC1, k_aC3, k_aC4, k_aN1, k_aN3, k_aN4, k_eP1, k_eP2, k_eP3, k_eP4, k_pB1, k_pB2, k_pB3, k_pAn1, k_pAn2, k_pAn3, k_pIn1, k_pIn2, k_pIn3, k_pIc1, k_pIc2, k_pIc3, k_pBi1, k_pBi2, k_pBi3, k_oAdd1, k_oAdd2, k_oAdd3, k_oScr1, k_oScr2, k_oScr3, k_sR1, k_sR2]
  rfl
theorem lk25 (P : Nat × (Nat → Int32)) : skl (lc25 P) = skl (lc25 (0, fun _ => 0)) := by
  simp only [skl, lc25, k_ifB1, k_ifB2, k_dCm1, k_dCm2, k_dCm3, k_eK1, k_eK2, k_eK3, k_eK4, k_kV1, k_kV2, k_kV3, k_aC1, k_aC3, k_aC4, k_aN1, k_aN3, k_aN4, k_eP1, k_eP2, k_eP3, k_eP4, k_pB1, k_pB2, k_pB3, k_pAn1, k_pAn2, k_pAn3, k_pIn1, k_pIn2, k_pIn3, k_pIc1, k_pIc2, k_pIc3, k_pBi1, k_pBi2, k_pBi3, k_oAdd1, k_oAdd2, k_oAdd3, k_oScr1, k_oScr2, k_oScr3, k_sR1, k_sR2]
  rfl
theorem lk26 (P : Nat × (Nat → Int32)) : skl (lc26 P) = skl (lc26 (0, fun _ => 0)) := by
  simp only [skl, lc26, k_ifB1, k_ifB2, k_dCm1, k_dCm2, k_dCm3, k_eK1, k_eK2, k_eK3, k_eK4, k_kV1, k_kV2, k_kV3, k_aC1, k_aC3, k_aC4, k_aN1, k_aN3, k_aN4, k_eP1, k_eP2, k_eP3, k_eP4, k_pB1, k_pB2, k_pB3, k_pAn1, k_pAn2, k_pAn3, k_pIn1, k_pIn2, k_pIn3, k_pIc1, k_pIc2, k_pIc3, k_pBi1, k_pBi2, k_pBi3, k_oAdd1, k_oAdd2, k_oAdd3, k_oScr1, k_oScr2, k_oScr3, k_sR1, k_sR2]
  rfl
theorem lk27 (P : Nat × (Nat → Int32)) : skl (lc27 P) = skl (lc27 (0, fun _ => 0)) := by
  simp only [skl, lc27, k_ifB1, k_ifB2, k_dCm1, k_dCm2, k_dCm3, k_eK1, k_eK2, k_eK3, k_eK4, k_kV1, k_kV2, k_kV3, k_aC1, k_aC3, k_aC4, k_aN1, k_aN3, k_aN4, k_eP1, k_eP2, k_eP3, k_eP4, k_pB1, k_pB2, k_pB3, k_pAn1, k_pAn2, k_pAn3, k_pIn1, k_pIn2, k_pIn3, k_pIc1, k_pIc2, k_pIc3, k_pBi1, k_pBi2, k_pBi3, k_oAdd1, k_oAdd2, k_oAdd3, k_oScr1, k_oScr2, k_oScr3, k_sR1, k_sR2]
  rfl
theorem lk28 (P : Nat × (Nat → Int32)) : skl (lc28 P) = skl (lc28 (0, fun _ => 0)) := by
  simp only [skl, lc28, k_ifB1, k_ifB2, k_dCm1, k_dCm2, k_dCm3, k_eK1, k_eK2, k_eK3, k_eK4, k_kV1, k_kV2, k_kV3, k_aC1, k_aC3, k_aC4, k_aN1, k_aN3, k_aN4, k_eP1, k_eP2, k_eP3, k_eP4, k_pB1, k_pB2, k_pB3, k_pAn1, k_pAn2, k_pAn3, k_pIn1, k_pIn2, k_pIn3, k_pIc1, k_pIc2, k_pIc3, k_pBi1, k_pBi2, k_pBi3, k_oAdd1, k_oAdd2, k_oAdd3, k_oScr1, k_oScr2, k_oScr3, k_sR1, k_sR2]
  rfl
theorem lk29 (P : Nat × (Nat → Int32)) : skl (lc29 P) = skl (lc29 (0, fun _ => 0)) := by
  simp only [skl, lc29, k_ifB1, k_ifB2, k_dCm1, k_dCm2, k_dCm3, k_eK1, k_eK2, k_eK3, k_eK4, k_kV1, k_kV2, k_kV3, k_aC1, k_aC3, k_aC4, k_aN1, k_aN3, k_aN4, k_eP1, k_eP2, k_eP3, k_eP4, k_pB1, k_pB2, k_pB3, k_pAn1, k_pAn2, k_pAn3, k_pIn1, k_pIn2, k_pIn3, k_pIc1, k_pIc2, k_pIc3, k_pBi1, k_pBi2, k_pBi3, k_oAdd1, k_oAdd2, k_oAdd3, k_oScr1, k_oScr2, k_oScr3, k_sR1, k_sR2]
  rfl
theorem lk30 (P : Nat × (Nat → Int32)) : skl (lc30 P) = skl (lc30 (0, fun _ => 0)) := by
  simp only [skl, lc30, k_ifB1, k_ifB2, k_dCm1, k_dCm2, k_dCm3, k_eK1, k_eK2, k_eK3, k_eK4, k_kV1, k_kV2, k_kV3, k_aC1, k_aC3, k_aC4, k_aN1, k_aN3, k_aN4, k_eP1, k_eP2, k_eP3, k_eP4, k_pB1, k_pB2, k_pB3, k_pAn1, k_pAn2, k_pAn3, k_pIn1, k_pIn2, k_pIn3, k_pIc1, k_pIc2, k_pIc3, k_pBi1, k_pBi2, k_pBi3, k_oAdd1, k_oAdd2, k_oAdd3, k_oScr1, k_oScr2, k_oScr3, k_sR1, k_sR2]
  rfl
theorem lk31 (P : Nat × (Nat → Int32)) : skl (lc31 P) = skl (lc31 (0, fun _ => 0)) := by
  simp only [skl, lc31, k_ifB1, k_ifB2, k_dCm1, k_dCm2, k_dCm3, k_eK1, k_eK2, k_eK3, k_eK4, k_kV1, k_kV2, k_kV3, k_aC1, k_aC3, k_aC4, k_aN1, k_aN3, k_aN4, k_eP1, k_eP2, k_eP3, k_eP4, k_pB1, k_pB2, k_pB3, k_pAn1, k_pAn2, k_pAn3, k_pIn1, k_pIn2, k_pIn3, k_pIc1, k_pIc2, k_pIc3, k_pBi1, k_pBi2, k_pBi3, k_oAdd1, k_oAdd2, k_oAdd3, k_oScr1, k_oScr2, k_oScr3, k_sR1, k_sR2]
  rfl
theorem lk32 (P : Nat × (Nat → Int32)) : skl (lc32 P) = skl (lc32 (0, fun _ => 0)) := by
  simp only [skl, lc32, k_ifB1, k_ifB2, k_dCm1, k_dCm2, k_dCm3, k_eK1, k_eK2, k_eK3, k_eK4, k_kV1, k_kV2, k_kV3, k_aE1, k_aE3, k_aE4, k_aC1, k_aC3, k_aC4, k_aN1, k_aN3, k_aN4, k_eP1, k_eP2, k_eP3, k_eP4, k_pB1, k_pB2, k_pB3, k_pAn1, k_pAn2, k_pAn3, k_pIn1, k_pIn2, k_pIn3, k_pIc1, k_pIc2, k_pIc3, k_pBi1, k_pBi2, k_pBi3, k_oAdd1, k_oAdd2, k_oAdd3, k_oScr1, k_oScr2, k_oScr3, k_sR1, k_sR2]
  rfl
theorem lk33 (P : Nat × (Nat → Int32)) : skl (lc33 P) = skl (lc33 (0, fun _ => 0)) := by
  simp only [skl, lc33, k_ifB1, k_ifB2, k_dCm1, k_dCm2, k_dCm3, k_eK1, k_eK2, k_eK3, k_eK4, k_kV1, k_kV2, k_kV3, k_aC1, k_aC3, k_aC4, k_aN1, k_aN3, k_aN4, k_eP1, k_eP2, k_eP3, k_eP4, k_pB1, k_pB2, k_pB3, k_pAn1, k_pAn2, k_pAn3, k_pIn1, k_pIn2, k_pIn3, k_pIc1, k_pIc2, k_pIc3, k_pBi1, k_pBi2, k_pBi3, k_oAdd1, k_oAdd2, k_oAdd3, k_oScr1, k_oScr2, k_oScr3, k_sR1, k_sR2]
  rfl
theorem lk34 (P : Nat × (Nat → Int32)) : skl (lc34 P) = skl (lc34 (0, fun _ => 0)) := by
  simp only [skl, lc34, k_ifB1, k_ifB2, k_dCm1, k_dCm2, k_dCm3, k_eK1, k_eK2, k_eK3, k_eK4, k_kV1, k_kV2, k_kV3, k_aC1, k_aC3, k_aC4, k_aN1, k_aN3, k_aN4, k_eP1, k_eP2, k_eP3, k_eP4, k_pB1, k_pB2, k_pB3, k_pAn1, k_pAn2, k_pAn3, k_pIn1, k_pIn2, k_pIn3, k_pIc1, k_pIc2, k_pIc3, k_pBi1, k_pBi2, k_pBi3, k_oAdd1, k_oAdd2, k_oAdd3, k_oScr1, k_oScr2, k_oScr3, k_sR1, k_sR2]
  rfl
theorem lk35 (P : Nat × (Nat → Int32)) : skl (lc35 P) = skl (lc35 (0, fun _ => 0)) := by
  simp only [skl, lc35, k_ifB1, k_ifB2, k_dCm1, k_dCm2, k_dCm3, k_eK1, k_eK2, k_eK3, k_eK4, k_kV1, k_kV2, k_kV3, k_aC1, k_aC3, k_aC4, k_aN1, k_aN3, k_aN4, k_eP1, k_eP2, k_eP3, k_eP4, k_pB1, k_pB2, k_pB3, k_pAn1, k_pAn2, k_pAn3, k_pIn1, k_pIn2, k_pIn3, k_pIc1, k_pIc2, k_pIc3, k_pBi1, k_pBi2, k_pBi3, k_oAdd1, k_oAdd2, k_oAdd3, k_oScr1, k_oScr2, k_oScr3, k_sR1, k_sR2]
  rfl
theorem lk36 (P : Nat × (Nat → Int32)) : skl (lc36 P) = skl (lc36 (0, fun _ => 0)) := by
  simp only [skl, lc36, k_ifB1, k_ifB2, k_dCm1, k_dCm2, k_dCm3, k_eK1, k_eK2, k_eK3, k_eK4, k_kV1, k_kV2, k_kV3, k_aC1, k_aC3, k_aC4, k_aN1, k_aN3, k_aN4, k_eP1, k_eP2, k_eP3, k_eP4, k_pB1, k_pB2, k_pB3, k_pAn1, k_pAn2, k_pAn3, k_pIn1, k_pIn2, k_pIn3, k_pIc1, k_pIc2, k_pIc3, k_pBi1, k_pBi2, k_pBi3, k_oAdd1, k_oAdd2, k_oAdd3, k_oScr1, k_oScr2, k_oScr3, k_sR1, k_sR2]
  rfl
theorem lk37 (P : Nat × (Nat → Int32)) : skl (lc37 P) = skl (lc37 (0, fun _ => 0)) := by
  simp only [skl, lc37, k_ifB1, k_ifB2, k_dCm1, k_dCm2, k_dCm3, k_eK1, k_eK2, k_eK3, k_eK4, k_kV1, k_kV2, k_kV3, k_aC1, k_aC3, k_aC4, k_aN1, k_aN3, k_aN4, k_eP1, k_eP2, k_eP3, k_eP4, k_pB1, k_pB2, k_pB3, k_pAn1, k_pAn2, k_pAn3, k_pIn1, k_pIn2, k_pIn3, k_pIc1, k_pIc2, k_pIc3, k_pBi1, k_pBi2, k_pBi3, k_oAdd1, k_oAdd2, k_oAdd3, k_oScr1, k_oScr2, k_oScr3, k_sR1, k_sR2]
  rfl
theorem lk38 (P : Nat × (Nat → Int32)) : skl (lc38 P) = skl (lc38 (0, fun _ => 0)) := by
  simp only [skl, lc38, k_ifB1, k_ifB2, k_dCm1, k_dCm2, k_dCm3, k_eK1, k_eK2, k_eK3, k_eK4, k_kV1, k_kV2, k_kV3, k_aC1, k_aC3, k_aC4, k_aN1, k_aN3, k_aN4, k_eP1, k_eP2, k_eP3, k_eP4, k_pB1, k_pB2, k_pB3, k_pAn1, k_pAn2, k_pAn3, k_pIn1, k_pIn2, k_pIn3, k_pIc1, k_pIc2, k_pIc3, k_pBi1, k_pBi2, k_pBi3, k_oAdd1, k_oAdd2, k_oAdd3, k_oScr1, k_oScr2, k_oScr3, k_sR1, k_sR2]
  rfl
theorem lk39 (P : Nat × (Nat → Int32)) : skl (lc39 P) = skl (lc39 (0, fun _ => 0)) := by
  simp only [skl, lc39, k_ifB1, k_ifB2, k_dCm1, k_dCm2, k_dCm3, k_eK1, k_eK2, k_eK3, k_eK4, k_kV1, k_kV2, k_kV3, k_aC1, k_aC3, k_aC4, k_aN1, k_aN3, k_aN4, k_eP1, k_eP2, k_eP3, k_eP4, k_pB1, k_pB2, k_pB3, k_pAn1, k_pAn2, k_pAn3, k_pIn1, k_pIn2, k_pIn3, k_pIc1, k_pIc2, k_pIc3, k_pBi1, k_pBi2, k_pBi3, k_oAdd1, k_oAdd2, k_oAdd3, k_oScr1, k_oScr2, k_oScr3, k_sR1, k_sR2]
  rfl
theorem lk40 (P : Nat × (Nat → Int32)) : skl (lc40 P) = skl (lc40 (0, fun _ => 0)) := by
  simp only [skl, lc40, k_ifB1, k_ifB2, k_dCm1, k_dCm2, k_dCm3, k_eK1, k_eK2, k_eK3, k_eK4, k_kV1, k_kV2, k_kV3, k_aC1, k_aC3, k_aC4, k_aN1, k_aN3, k_aN4, k_eP1, k_eP2, k_eP3, k_eP4, k_pB1, k_pB2, k_pB3, k_pAn1, k_pAn2, k_pAn3, k_pIn1, k_pIn2, k_pIn3, k_pIc1, k_pIc2, k_pIc3, k_pBi1, k_pBi2, k_pBi3, k_oAdd1, k_oAdd2, k_oAdd3, k_oScr1, k_oScr2, k_oScr3, k_sR1, k_sR2]
  rfl
theorem lk41 (P : Nat × (Nat → Int32)) : skl (lc41 P) = skl (lc41 (0, fun _ => 0)) := by
  simp only [skl, lc41, k_ifB1, k_ifB2, k_dCm1, k_dCm2, k_dCm3, k_eK1, k_eK2, k_eK3, k_eK4, k_kV1, k_kV2, k_kV3, k_aC1, k_aC3, k_aC4, k_aN1, k_aN3, k_aN4, k_eP1, k_eP2, k_eP3, k_eP4, k_pB1, k_pB2, k_pB3, k_pAn1, k_pAn2, k_pAn3, k_pIn1, k_pIn2, k_pIn3, k_pIc1, k_pIc2, k_pIc3, k_pBi1, k_pBi2, k_pBi3, k_oAdd1, k_oAdd2, k_oAdd3, k_oScr1, k_oScr2, k_oScr3, k_sR1, k_sR2]
  rfl
theorem lk42 (P : Nat × (Nat → Int32)) : skl (lc42 P) = skl (lc42 (0, fun _ => 0)) := by
  simp only [skl, lc42, k_ifB1, k_ifB2, k_dCm1, k_dCm2, k_dCm3, k_eK1, k_eK2, k_eK3, k_eK4, k_kV1, k_kV2, k_kV3, k_aC1, k_aC3, k_aC4, k_aN1, k_aN3, k_aN4, k_eP1, k_eP2, k_eP3, k_eP4, k_pB1, k_pB2, k_pB3, k_pAn1, k_pAn2, k_pAn3, k_pIn1, k_pIn2, k_pIn3, k_pIc1, k_pIc2, k_pIc3, k_pBi1, k_pBi2, k_pBi3, k_oAdd1, k_oAdd2, k_oAdd3, k_oScr1, k_oScr2, k_oScr3, k_sR1, k_sR2]
  rfl
theorem lk43 (P : Nat × (Nat → Int32)) : skl (lc43 P) = skl (lc43 (0, fun _ => 0)) := by
  simp only [skl, lc43, k_ifB1, k_ifB2, k_dCm1, k_dCm2, k_dCm3, k_eK1, k_eK2, k_eK3, k_eK4, k_kV1, k_kV2, k_kV3, k_aC1, k_aC3, k_aC4, k_aN1, k_aN3, k_aN4, k_eP1, k_eP2, k_eP3, k_eP4, k_pB1, k_pB2, k_pB3, k_pAn1, k_pAn2, k_pAn3, k_pIn1, k_pIn2, k_pIn3, k_pIc1, k_pIc2, k_pIc3, k_pBi1, k_pBi2, k_pBi3, k_oAdd1, k_oAdd2, k_oAdd3, k_oScr1, k_oScr2, k_oScr3, k_sR1, k_sR2]
  rfl
theorem lk44 (P : Nat × (Nat → Int32)) : skl (lc44 P) = skl (lc44 (0, fun _ => 0)) := by
  simp only [skl, lc44, k_ifB1, k_ifB2, k_dCm1, k_dCm2, k_dCm3, k_eK1, k_eK2, k_eK3, k_eK4, k_kV1, k_kV2, k_kV3, k_aC1, k_aC3, k_aC4, k_aN1, k_aN3, k_aN4, k_eP1, k_eP2, k_eP3, k_eP4, k_pB1, k_pB2, k_pB3, k_pAn1, k_pAn2, k_pAn3, k_pIn1, k_pIn2, k_pIn3, k_pIc1, k_pIc2, k_pIc3, k_pBi1, k_pBi2, k_pBi3, k_oAdd1, k_oAdd2, k_oAdd3, k_oScr1, k_oScr2, k_oScr3, k_sR1, k_sR2]
  rfl
theorem lks (P : Nat × (Nat → Int32)) : (lcs P).map skl = (lcs (0, fun _ => 0)).map skl := by
  simp only [lcs, List.map_cons, List.map_nil, lk0 P, lk1 P, lk2 P, lk3 P, lk4 P, lk5 P, lk6 P, lk7 P, lk8 P, lk9 P, lk10 P, lk11 P, lk12 P, lk13 P, lk14 P, lk15 P, lk16 P, lk17 P, lk18 P, lk19 P, lk20 P, lk21 P, lk22 P, lk23 P, lk24 P, lk25 P, lk26 P, lk27 P, lk28 P, lk29 P, lk30 P, lk31 P, lk32 P, lk33 P, lk34 P, lk35 P, lk36 P, lk37 P, lk38 P, lk39 P, lk40 P, lk41 P, lk42 P, lk43 P, lk44 P]
theorem law_s (P : Nat × (Nat → Int32)) : skl (b_law P) = skl (b_law (0, fun _ => 0)) :=
  skl_Seq rfl (skl_Seq rfl (skl_Seq (skl_Sc (skl_Seq rfl (skl_Lp rfl rfl rfl (skl_Sw rfl rfl rfl (lks P)) rfl))) rfl))
