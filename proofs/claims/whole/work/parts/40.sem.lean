/-! what each node does, as rows for simp -/
section ZZ
variable {S : xS}
theorem zPIc (n : Int) (L : List Value) (h : AH) : (pIc n : PN S).1.2.2.2 L h = some (.int (Int32.ofInt n)) := rfl
theorem zPBi (n : Int) (L : List Value) (h : AH) : (pBi n : PN S).1.2.2.2 L h = some (.int (Int8.ofInt n).toInt32) := rfl
theorem zPSi (n : Int) (L : List Value) (h : AH) : (pSi n : PN S).1.2.2.2 L h = some (.int (Int16.ofInt n).toInt32) := rfl
theorem zPLdc (i : Nat) (c : Int32) (hi) (L : List Value) (h : AH) : (pLdc i c hi : PN S).1.2.2.2 L h = some (.int c) := rfl
theorem zPLdcw (i : Nat) (c : Int32) (hi) (L : List Value) (h : AH) : (pLdcw i c hi : PN S).1.2.2.2 L h = some (.int c) := rfl
theorem zPLd2 (i : Nat) (c : Int64) (hi) (L : List Value) (h : AH) : (pLd2 i c hi : PN S).1.2.2.2 L h = some (.long c) := rfl
theorem zPLc (n : Fin 2) (L : List Value) (h : AH) : (pLc n : PN S).1.2.2.2 L h = some (.long (Int64.ofNat n)) := rfl
theorem zPNull (L : List Value) (h : AH) : (pNull : PN S).1.2.2.2 L h = some .null := rfl
theorem zPIn (i : Fin 4) (L : List Value) (h : AH) : (pIn i : PN S).1.2.2.2 L h = fLi i.val L := rfl
theorem zPI (i : Nat) (L : List Value) (h : AH) : (pI i : PN S).1.2.2.2 L h = fLi i L := rfl
theorem zPLn (i : Fin 4) (L : List Value) (h : AH) : (pLn i : PN S).1.2.2.2 L h = fLl i.val L := rfl
theorem zPL (i : Nat) (L : List Value) (h : AH) : (pL i : PN S).1.2.2.2 L h = fLl i L := rfl
theorem zPAn (i : Fin 4) (L : List Value) (h : AH) : (pAn i : PN S).1.2.2.2 L h = fLa i.val L := rfl
theorem zPA (i : Nat) (L : List Value) (h : AH) : (pA i : PN S).1.2.2.2 L h = fLa i L := rfl
theorem zPStr (i : Nat) (hi) (ho) (L : List Value) (h : AH) : (pStr i hi ho : PN S).1.2.2.2 L h = some (.retAddr (1 + i)) := rfl
theorem zPCs (i : Nat) (hf) (L : List Value) (h : AH) : (pCs i hf : PN S).1.2.2.2 L h = some (.int 1) := rfl
theorem zPU (o : UO S) (a : PN S) (L : List Value) (h : AH) : (pU o a).1.2.2.2 L h = (a.1.2.2.2 L h).bind (o.1.2.2.2 h) := rfl
theorem zPB (o : BO S) (a b : PN S) (L : List Value) (h : AH) : (pB o a b).1.2.2.2 L h = (a.1.2.2.2 L h).bind (fun u => (b.1.2.2.2 L h).bind (o.1.2.2.2 h u)) := rfl
theorem zPBv (a : CN S) (L : List Value) (h : AH) : (pBv a).1.2.2.2 L h = (a.1.2.2 L h).map xbv := rfl
theorem zPTn (c : CN S) (a e : PN S) (L : List Value) (h : AH) : (pTn c a e).1.2.2.2 L h = (c.1.2.2 L h).bind (fun u => if u = true then a.1.2.2.2 L h else e.1.2.2.2 L h) := rfl
theorem zCIf (c : ClassFile.Cond) (a : PN S) (L : List Value) (h : AH) : (cIf c a).1.2.2 L h = (a.1.2.2.2 L h).bind (fIf c) := rfl
theorem zCCm (c : ClassFile.Cond) (a e : PN S) (L : List Value) (h : AH) : (cCm c a e).1.2.2 L h = (a.1.2.2.2 L h).bind (fun u => (e.1.2.2.2 L h).bind (fCm c u)) := rfl
theorem zCNl (a : PN S) (L : List Value) (h : AH) : (cNl a).1.2.2 L h = (a.1.2.2.2 L h).bind fNl := rfl
theorem zCNot (a : CN S) (L : List Value) (h : AH) : (cNot a).1.2.2 L h = (a.1.2.2 L h).map (fun v => !v) := rfl
theorem zCAnd (a e : CN S) (L : List Value) (h : AH) : (cAnd a e).1.2.2 L h = (a.1.2.2 L h).bind (fun u => if u = true then e.1.2.2 L h else some false) := rfl
theorem zCOr (a e : CN S) (L : List Value) (h : AH) : (cOr a e).1.2.2 L h = (a.1.2.2 L h).bind (fun u => if u = true then some true else e.1.2.2 L h) := rfl
theorem zOAdd (h : AH) : (oAdd : BO S).1.2.2.2 h = fII (fun a b => a + b) h := rfl
theorem zOSub (h : AH) : (oSub : BO S).1.2.2.2 h = fII (fun a b => a - b) h := rfl
theorem zOMul (h : AH) : (oMul : BO S).1.2.2.2 h = fII (fun a b => a * b) h := rfl
theorem zOAnd (h : AH) : (oAnd : BO S).1.2.2.2 h = fII (fun a b => a &&& b) h := rfl
theorem zOOr (h : AH) : (oOr : BO S).1.2.2.2 h = fII (fun a b => a ||| b) h := rfl
theorem zOXor (h : AH) : (oXor : BO S).1.2.2.2 h = fII (fun a b => a ^^^ b) h := rfl
theorem zOShl (h : AH) : (oShl : BO S).1.2.2.2 h = fII xshl h := rfl
theorem zOShr (h : AH) : (oShr : BO S).1.2.2.2 h = fII xshr h := rfl
theorem zOUshr (h : AH) : (oUshr : BO S).1.2.2.2 h = fII xushr h := rfl
theorem zODiv (h : AH) : (oDiv : BO S).1.2.2.2 h = fIIz (fun a b => a / b) h := rfl
theorem zORem (h : AH) : (oRem : BO S).1.2.2.2 h = fIIz xrem h := rfl
theorem zOAddL (h : AH) : (oAddL : BO S).1.2.2.2 h = fLL (fun a b => a + b) h := rfl
theorem zOSubL (h : AH) : (oSubL : BO S).1.2.2.2 h = fLL (fun a b => a - b) h := rfl
theorem zOMulL (h : AH) : (oMulL : BO S).1.2.2.2 h = fLL (fun a b => a * b) h := rfl
theorem zOAndL (h : AH) : (oAndL : BO S).1.2.2.2 h = fLL (fun a b => a &&& b) h := rfl
theorem zOXorL (h : AH) : (oXorL : BO S).1.2.2.2 h = fLL (fun a b => a ^^^ b) h := rfl
theorem zORemL (h : AH) : (oRemL : BO S).1.2.2.2 h = fLLz xremL h := rfl
theorem zOShlL (h : AH) : (oShlL : BO S).1.2.2.2 h = fLI xshlL h := rfl
theorem zOShrL (h : AH) : (oShrL : BO S).1.2.2.2 h = fLI xshrL h := rfl
theorem zOCmpL (h : AH) : (oCmpL : BO S).1.2.2.2 h = fCmpL h := rfl
theorem zOIald (h : AH) : (oIald : BO S).1.2.2.2 h = fIald h := rfl
theorem zOLald (h : AH) : (oLald : BO S).1.2.2.2 h = fLald h := rfl
theorem zOZald (h : AH) : (oZald : BO S).1.2.2.2 h = fZald h := rfl
theorem zOAald (t0 : Nat) (cn : String) (ht) (h : AH) : (oAald t0 cn ht : BO S).1.2.2.2 h = fAald cn h := rfl
theorem zOI2l (h : AH) : (oI2l : UO S).1.2.2.2 h = fI2l h := rfl
theorem zOL2i (h : AH) : (oL2i : UO S).1.2.2.2 h = fL2i h := rfl
theorem zONeg (h : AH) : (oNeg : UO S).1.2.2.2 h = fNeg h := rfl
theorem zONegL (h : AH) : (oNegL : UO S).1.2.2.2 h = fNegL h := rfl
theorem zOGet (i ci kx cat : Nat) (hf) (h : AH) : (oGet i ci kx cat hf : UO S).1.2.2.2 h = fGetC ci kx cat h := rfl
theorem zOAlen (t0 : Nat) (ty : FieldType) (ht) (h : AH) : (oAlen t0 ty ht : UO S).1.2.2.2 h = fAlen ty h := rfl
theorem zOScrL (P : Nat × (Nat → Int32)) (hP) (h : AH) : (oScrL P hP : UO S).1.2.2.2 h = fScrL P := rfl
theorem zOScr (P : Nat × (Nat → Int32)) (hP) (h : AH) : (oScr P hP : BO S).1.2.2.2 h = fScr P := rfl
theorem zOSv (i : Nat) (hf) (h : AH) : (oSv i hf : UO S).1.2.2.2 h = fSv := rfl
theorem zOScd (i : Nat) (hf) (h : AH) : (oScd i hf : UO S).1.2.2.2 h = fScd := rfl
theorem zOBln (h : AH) : (oBln : UO S).1.2.2.2 h = fBln := rfl
theorem zOBld (h : AH) : (oBld : BO S).1.2.2.2 h = fBld := rfl
theorem zOI2c (h : AH) : (oI2c : UO S).1.2.2.2 h = fI2c := rfl
variable (L : List Value) (k : Nat × Nat) (h : AH)
theorem zEP (a : PN S) (Q) : (eP a).1.2.2.2.2 L k h Q = ∃ v, a.1.2.2.2 L h = some v ∧ Q v k h := rfl
theorem zEU (o : UO S) (a : EN S) (Q) : (eU o a).1.2.2.2.2 L k h Q = a.1.2.2.2.2 L k h (fun u k' h' => ∃ v, o.1.2.2.2 h' u = some v ∧ Q v k' h') := rfl
theorem zEB (o : BO S) (a b : EN S) (Q) : (eB o a b).1.2.2.2.2 L k h Q = a.1.2.2.2.2 L k h (fun u k' h' => b.1.2.2.2.2 L k' h' (fun t k2 h2 => ∃ v, o.1.2.2.2 h2 u t = some v ∧ Q v k2 h2)) := rfl
theorem zDC (a : CN S) (Q) : (dC a).1.2.2.2 L k h Q = ∃ v, a.1.2.2 L h = some v ∧ Q v k h := rfl
theorem zDIf (c : ClassFile.Cond) (a : EN S) (Q) : (dIf c a).1.2.2.2 L k h Q = a.1.2.2.2.2 L k h (fun u k' h' => ∃ v, fIf c u = some v ∧ Q v k' h') := rfl
theorem zDCm (c : ClassFile.Cond) (a e : EN S) (Q) : (dCm c a e).1.2.2.2 L k h Q = a.1.2.2.2.2 L k h (fun u k' h' => e.1.2.2.2.2 L k' h' (fun t k2 h2 => ∃ v, fCm c u t = some v ∧ Q v k2 h2)) := rfl
theorem zDNot (a : DN S) (Q) : (dNot a).1.2.2.2 L k h Q = a.1.2.2.2 L k h (fun v k' h' => Q (!v) k' h') := rfl
theorem zDAnd (a e : DN S) (Q) : (dAnd a e).1.2.2.2 L k h Q = a.1.2.2.2 L k h (fun u k' h' => if u = true then e.1.2.2.2 L k' h' Q else Q false k' h') := rfl
theorem zDOr (a e : DN S) (Q) : (dOr a e).1.2.2.2 L k h Q = a.1.2.2.2 L k h (fun u k' h' => if u = true then Q true k' h' else e.1.2.2.2 L k' h' Q) := rfl
theorem zEBv (a : DN S) (Q) : (eBv a).1.2.2.2.2 L k h Q = a.1.2.2.2 L k h (fun u k' h' => Q (xbv u) k' h') := rfl
theorem zETn (c : DN S) (a e : EN S) (Q) : (eTn c a e).1.2.2.2.2 L k h Q = c.1.2.2.2 L k h (fun u k' h' => if u = true then a.1.2.2.2.2 L k' h' Q else e.1.2.2.2.2 L k' h' Q) := rfl
theorem zAN (Q) : (aN : AN S).1.2.2.2.2 L k h Q = Q [] k h := rfl
theorem zAC (a : EN S) (r : AN S) (Q) : (aC a r).1.2.2.2.2 L k h Q = a.1.2.2.2.2 L k h (fun v k' h' => r.1.2.2.2.2 L k' h' (fun vs k2 h2 => Q (v :: vs) k2 h2)) := rfl
theorem zKV (g : xSig) (M : {M : xMS // xMeets g M}) (i ci : Nat) (o : EN S) (a : AN S) (hok) (Q) : (kV g M i ci o a hok).1.2.2.2 L k h Q = o.1.2.2.2.2 L k h (fun u k1 h1 => a.1.2.2.2.2 L k1 h1 (fun vs k2 h2 => ∃ (b : Nat) (fs : List Value), u = .ref b ∧ h2.2 b = some (.inr (ci, fs)) ∧ xaf S g k2 ∧ M.1 (u :: vs) h2 (fun r h' => Q r (xkp g k2) h'))) := rfl
theorem zKS (g : xSig) (M : {M : xMS // xMeets g M}) (i : Nat) (a : AN S) (hok) (Q) : (kS g M i a hok).1.2.2.2 L k h Q = a.1.2.2.2.2 L k h (fun vs k2 h2 => xaf S g k2 ∧ M.1 vs h2 (fun r h' => Q r (xkp g k2) h')) := rfl
theorem zKX (g : xSig) (M : {M : xMS // xMeets g M}) (i : Nat) (o : EN S) (a : AN S) (hok) (Q) : (kX g M i o a hok).1.2.2.2 L k h Q = o.1.2.2.2.2 L k h (fun u k1 h1 => a.1.2.2.2.2 L k1 h1 (fun vs k2 h2 => ∃ (b : Nat), u = .retAddr (1 + b) ∧ b < 6 ∧ xaf S g k2 ∧ M.1 (u :: vs) h2 (fun r h' => Q r (xkp g k2) h'))) := rfl
theorem zKAc (i : Nat) (a : AN S) (hok) (Q) : (kAc i a hok).1.2.2.2 L k h Q = a.1.2.2.2.2 L k h (fun vs k2 h2 => ∃ h', fAcp h2 vs = some h' ∧ Q none k2 h') := rfl
theorem zEK (cat : Nat) (c : KN S) (Q) : (eK cat c).1.2.2.2.2 L k h Q = c.1.2.2.2 L k h (fun r k' h' => ∃ v, r = some v ∧ v.category ≤ cat ∧ Q v k' h') := rfl
theorem zENew (g : xSig) (M : {M : xMS // xMeets g M}) (ni i ci : Nat) (r0 : vw_C) (hr) (hnw) (a : AN S) (hok) (Q) : (eNew g M ni i ci r0 hr hnw a hok).1.2.2.2.2 L k h Q = (k.1 + 1 ≤ S.2.2.2.1 ∧ k.2 + r0.2.2 ≤ S.2.2.2.2.1 ∧ a.1.2.2.2.2 L (k.1 + 1, k.2 + r0.2.2) (xnew h (.inr (ci, xdf r0))) (fun vs k2 h2 => xaf S g k2 ∧ M.1 (.ref h.1 :: vs) h2 (fun r h' => r = none ∧ Q (.ref h.1) (xkp g k2) h'))) := rfl
theorem zENa (t : ArrayType) (ht) (hcl) (n : EN S) (Q) : (eNa t ht hcl n).1.2.2.2.2 L k h Q = n.1.2.2.2.2 L k h (fun v k' h' => ∃ i : Int32, v = .int i ∧ 0 ≤ i ∧ i.toNatClampNeg ≤ 10000 ∧ k'.1 + 1 ≤ S.2.2.2.1 ∧ k'.2 + i.toNatClampNeg ≤ S.2.2.2.2.1 ∧ Q (.ref h'.1) (k'.1 + 1, k'.2 + i.toNatClampNeg) (xnew h' (xz t i.toNatClampNeg))) := rfl
theorem zSNop (N B Ct R) : (sNop : SN S).1.2.2 L k h N B Ct R = N L k h := rfl
theorem zSSeq (a b : SN S) (N B Ct R) : (sSeq a b).1.2.2 L k h N B Ct R = a.1.2.2 L k h (fun L' k' h' => b.1.2.2 L' k' h' N B Ct R) B Ct R := rfl
theorem zSBrk (N B Ct R) : (sBrk : SN S).1.2.2 L k h N B Ct R = B L k h := rfl
theorem zSCnt (N B Ct R) : (sCnt : SN S).1.2.2 L k h N B Ct R = Ct L k h := rfl
theorem zSSB (a : SN S) (N B Ct R) : (sSB a).1.2.2 L k h N B Ct R = a.1.2.2 L k h B B Ct R := rfl
theorem zSSC (a : SN S) (N B Ct R) : (sSC a).1.2.2 L k h N B Ct R = a.1.2.2 L k h Ct B Ct R := rfl
theorem zSSc (a : SN S) (N B Ct R) : (sSc a).1.2.2 L k h N B Ct R = a.1.2.2 L k h N B Ct R := rfl
theorem zSIf (c : DN S) (a : SN S) (N B Ct R) : (sIf c a).1.2.2 L k h N B Ct R = c.1.2.2.2 L k h (fun v k' h' => if v = true then a.1.2.2 L k' h' N B Ct R else N L k' h') := rfl
theorem zSIfE (c : DN S) (a b : SN S) (N B Ct R) : (sIfE c a b).1.2.2 L k h N B Ct R = c.1.2.2.2 L k h (fun v k' h' => if v = true then a.1.2.2 L k' h' N B Ct R else b.1.2.2 L k' h' N B Ct R) := rfl
theorem zSIfR (c : DN S) (a b : SN S) (N B Ct R) : (sIfR c a b).1.2.2 L k h N B Ct R = c.1.2.2.2 L k h (fun v k' h' => if v = true then a.1.2.2 L k' h' (fun _ _ _ => False) B Ct R else b.1.2.2 L k' h' N B Ct R) := rfl
theorem zSIfB (c : DN S) (a : SN S) (N B Ct R) : (sIfB c a).1.2.2 L k h N B Ct R = c.1.2.2.2 L k h (fun v k' h' => if v = true then a.1.2.2 L k' h' (fun _ _ _ => False) B Ct R else B L k' h') := rfl
theorem zSIfC (c : DN S) (N B Ct R) : (sIfC c).1.2.2 L k h N B Ct R = c.1.2.2.2 L k h (fun v k' h' => if v = true then Ct L k' h' else N L k' h') := rfl
theorem zSDead (n : Nat) (N B Ct R) : (sDead n : SN S).1.2.2 L k h N B Ct R = False := rfl
theorem zSSt (o : LO S) (e : EN S) (N B Ct R) : (sSt o e).1.2.2 L k h N B Ct R = e.1.2.2.2.2 L k h (fun v k' h' => ∃ L', o.1.2.2 L v = some L' ∧ N L' k' h') := rfl
theorem zSInc (i : Nat) (n : Int) (N B Ct R) : (sInc i n : SN S).1.2.2 L k h N B Ct R = ∃ L', fInc i n L = some L' ∧ N L' k h := rfl
theorem zSPut (q : QO S) (o e : EN S) (N B Ct R) : (sPut q o e).1.2.2 L k h N B Ct R = o.1.2.2.2.2 L k h (fun u k1 h1 => e.1.2.2.2.2 L k1 h1 (fun v k2 h2 => ∃ h', q.1.2 h2 u v = some h' ∧ N L k2 h')) := rfl
theorem zSPutC (q : QO S) (g : UO S) (p : BO S) (o : PN S) (e : EN S) (N B Ct R) : (sPutC q g p o e).1.2.2 L k h N B Ct R = ∃ u, o.1.2.2.2 L h = some u ∧ u.category = 1 ∧ ∃ v0, g.1.2.2.2 h u = some v0 ∧ e.1.2.2.2.2 L k h (fun t k2 h2 => ∃ v, p.1.2.2.2 h2 v0 t = some v ∧ ∃ h', q.1.2 h2 u v = some h' ∧ N L k2 h') := rfl
theorem zSAst (o : TO S) (r i e : EN S) (N B Ct R) : (sAst o r i e).1.2.2 L k h N B Ct R = r.1.2.2.2.2 L k h (fun u k1 h1 => i.1.2.2.2.2 L k1 h1 (fun j k2 h2 => e.1.2.2.2.2 L k2 h2 (fun v k3 h3 => ∃ h', o.1.2 h3 u j v = some h' ∧ N L k3 h'))) := rfl
theorem zSAstC (o : TO S) (g p : BO S) (r i : PN S) (e : EN S) (N B Ct R) : (sAstC o g p r i e).1.2.2 L k h N B Ct R = ∃ u, r.1.2.2.2 L h = some u ∧ u.category = 1 ∧ ∃ j, i.1.2.2.2 L h = some j ∧ j.category = 1 ∧ ∃ v0, g.1.2.2.2 h u j = some v0 ∧ e.1.2.2.2.2 L k h (fun t k2 h2 => ∃ v, p.1.2.2.2 h2 v0 t = some v ∧ ∃ h', o.1.2 h2 u j v = some h' ∧ N L k2 h') := rfl
theorem zSK (c : KN S) (N B Ct R) : (sK c).1.2.2 L k h N B Ct R = c.1.2.2.2 L k h (fun r k' h' => r = none ∧ N L k' h') := rfl
theorem zSKp (c : KN S) (N B Ct R) : (sKp c).1.2.2 L k h N B Ct R = c.1.2.2.2 L k h (fun r k' h' => ∃ v, r = some v ∧ v.category = 1 ∧ N L k' h') := rfl
theorem zSRv (N B Ct R) : (sRv : SN S).1.2.2 L k h N B Ct R = R none h := rfl
theorem zSR (i : Instr) (e : EN S) (N B Ct R) : (sR i e).1.2.2 L k h N B Ct R = e.1.2.2.2.2 L k h (fun v _ h' => xrI (some v) = i ∧ R (some v) h') := rfl
theorem zSLp (c : DN S) (b u : SN S) (N B Ct R) : (sLp c b u false).1.2.2 L k h N B Ct R = ∃ n, xlp c.1.2.2.2 b.1.2.2 u.1.2.2 N (fun _ _ _ => False) (fun _ _ _ => False) R n L k h := rfl
theorem zSWh (c : DN S) (b u : SN S) (N B Ct R) : (sLp c b u true).1.2.2 L k h N B Ct R = ∃ n, xlp c.1.2.2.2 b.1.2.2 (fun L k h N _ _ _ => N L k h) N (fun _ _ _ => False) (fun _ _ _ => False) R n L k h := rfl
theorem zSSw (e : EN S) (pad : Nat) (lo : Int) (tab : List Nat) (df : Nat) (bs : List (SN S)) (N B Ct R) : (sSw e pad lo tab df bs).1.2.2 L k h N B Ct R = e.1.2.2.2.2 L k h (fun v k' h' => ∃ a, v = .int a ∧ xbs (bs.drop (xsl lo tab df a)) L k' h' N Ct R) := rfl
theorem zLIn (i : Fin 4) : (lIn i : LO S).1.2.2 = fSi i.val := rfl
theorem zLI (i : Nat) : (lI i : LO S).1.2.2 = fSi i := rfl
theorem zLLn (i : Fin 4) : (lLn i : LO S).1.2.2 = fSl i.val := rfl
theorem zLL (i : Nat) : (lL i : LO S).1.2.2 = fSl i := rfl
theorem zLAn (i : Fin 4) : (lAn i : LO S).1.2.2 = fSa i.val := rfl
theorem zLA (i : Nat) : (lA i : LO S).1.2.2 = fSa i := rfl
theorem zQPut (i ci kx : Nat) (ty : FieldType) (hf) (hfi) (hty) : (qPut i ci kx ty hf hfi hty : QO S).1.2 = fPut ci kx ty := rfl
theorem zTI : (tIast : TO S).1.2 = fIast := rfl
theorem zTL : (tLast : TO S).1.2 = fLast := rfl
theorem zTZ : (tZast : TO S).1.2 = fZast := rfl
theorem zTA (t0 ci : Nat) (r0 : vw_C) (hr0) (ht) : (tAast t0 ci r0 hr0 ht : TO S).1.2 = fAast r0.1 ci := rfl
end ZZ
/-! loops -/
theorem xlp_by {c : List Value → Nat × Nat → AH → (Bool → Nat × Nat → AH → Prop) → Prop} {b u : List Value → Nat × Nat → AH → xPo → xPo → xPo → (Option Value → AH → Prop) → Prop} {N : xPo} {R : Option Value → AH → Prop} {σ : Type} (I : σ → List Value → Nat × Nat → AH → Prop) (μ : σ → Nat)
    (hs : ∀ (x : σ) (L : List Value) (k : Nat × Nat) (h : AH) (P : xPo), I x L k h → (∀ (y : σ) (L' : List Value) (k' : Nat × Nat) (h' : AH), μ y < μ x → I y L' k' h' → P L' k' h') → c L k h (fun v k' h' => if v = true then b L k' h' (fun L2 k2 h2 => u L2 k2 h2 P (fun _ _ _ => False) (fun _ _ _ => False) R) N (fun L2 k2 h2 => u L2 k2 h2 P (fun _ _ _ => False) (fun _ _ _ => False) R) R else N L k' h')) :
    ∀ (x : σ) (L : List Value) (k : Nat × Nat) (h : AH), I x L k h → ∃ n, xlp c b u N (fun _ _ _ => False) (fun _ _ _ => False) R n L k h := by
  have key : ∀ (n : Nat) (x : σ) (L : List Value) (k : Nat × Nat) (h : AH), μ x < n → I x L k h → xlp c b u N (fun _ _ _ => False) (fun _ _ _ => False) R n L k h := by
    intro n
    induction n with
    | zero => intro x L k h hx; exact absurd hx (Nat.not_lt_zero _)
    | succ n ih => intro x L k h hx hI; exact hs x L k h _ hI (fun y L' k' h' hy hI' => ih y L' k' h' (by omega) hI')
  exact fun x L k h hI => ⟨μ x + 1, key _ x L k h (Nat.lt_succ_self _) hI⟩
