/-! calls as expressions; statements -/
abbrev xAs : Type := Nat × Nat × Nat × (ByteArray → Nat → Bool) × (List Value → Nat × Nat → AH → (List Value → Nat × Nat → AH → Prop) → Prop)
/-- arguments: how long, how many, how deep -/
def xGA (S : xS) (n : xAs) : Prop := ∀ X, xOK X → xst X = S → ∀ pc, n.2.2.2.1 (xcc X) pc = true → ∀ L st k h Q, xcat st + n.2.2.1 ≤ 8 → n.2.2.2.2 L k h Q → (∀ vs k' h', vs.length = n.2.1 → Q vs k' h' → xAt X (pc + n.1) L (vs.reverse ++ st) k' h') → xAt X pc L st k h
def AN (S : xS) : Type := {n : xAs // xGA S n}
section XT
variable {S : xS}
def aN : AN S := ⟨(0, 0, 0, fun _ _ => true, fun _ k h Q => Q [] k h), by
  intro X C hS pc hc L st k h Q hd hs kk
  exact kk [] k h rfl hs⟩
def aC (a : EN S) (r : AN S) : AN S := ⟨(a.1.1 + r.1.1, r.1.2.1 + 1, max a.1.2.2.1 (a.1.2.1 + r.1.2.2.1), fun cc pc => a.1.2.2.2.1 cc pc (pc + a.1.1) && r.1.2.2.2.1 cc (pc + a.1.1), fun L k h Q => a.1.2.2.2.2 L k h (fun v k' h' => r.1.2.2.2.2 L k' h' (fun vs k2 h2 => Q (v :: vs) k2 h2))), by
  intro X C hS pc hc L st k h Q hd hs kk
  obtain ⟨h1, h2⟩ := xand hc
  have hd : xcat st + max a.1.2.2.1 (a.1.2.1 + r.1.2.2.1) ≤ 8 := hd
  refine a.2 X C hS pc (pc + a.1.1) h1 xEx.rf L st k h _ (by omega) hs (fun u k' h' hu hq => ?_)
  refine r.2 X C hS (pc + a.1.1) h2 L (u :: st) k' h' _ (by rw [xcat_cons]; omega) hq (fun vs k2 h2' hl hr => ?_)
  have h9 := kk (u :: vs) k2 h2' (by rw [List.length_cons, hl]) hr
  rw [Nat.add_assoc]
  simpa using h9⟩
/-- what a call gives: its code, how deep, what it does -/
abbrev xKn : Type := Nat × Nat × (ByteArray → Nat → Bool) × (List Value → Nat × Nat → AH → (Option Value → Nat × Nat → AH → Prop) → Prop)
def xGK (S : xS) (n : xKn) : Prop := ∀ X, xOK X → xst X = S → ∀ pc, n.2.2.1 (xcc X) pc = true → ∀ L st k h Q, xcat st + n.2.1 ≤ 8 → n.2.2.2 L k h Q → (∀ r k' h', Q r k' h' → xAt X (pc + n.1) L (r.toList ++ st) k' h') → xAt X pc L st k h
def KN (S : xS) : Type := {n : xKn // xGK S n}
def xaf (S : xS) (g : xSig) (k : Nat × Nat) : Prop := k.1 + g.2.2.2.2.cells ≤ S.2.2.2.1 ∧ k.2 + g.2.2.2.2.slots ≤ S.2.2.2.2.1
def xkp (g : xSig) (k : Nat × Nat) : Nat × Nat := (k.1 + g.2.2.2.2.cells, k.2 + g.2.2.2.2.slots)
/-- an instance's method: the receiver is an object of class ci -/
def kV (g : xSig) (M : {M : xMS // xMeets g M}) (i ci : Nat) (o : EN S) (a : AN S) (hok : xcV S g i a.1.2.1 ci = true) : KN S := ⟨(o.1.1 + a.1.1 + 3, max o.1.2.2.1 (o.1.2.1 + a.1.2.2.1), fun cc pc => o.1.2.2.2.1 cc pc (pc + o.1.1) && a.1.2.2.2.1 cc (pc + o.1.1) && ck cc (pc + o.1.1 + a.1.1) (.invokevirtual i) 3,
    fun L k h Q => o.1.2.2.2.2 L k h (fun u k1 h1 => a.1.2.2.2.2 L k1 h1 (fun vs k2 h2 => ∃ (b : Nat) (fs : List Value), u = .ref b ∧ h2.2 b = some (.inr (ci, fs)) ∧ xaf S g k2 ∧ M.1 (u :: vs) h2 (fun r h' => Q r (xkp g k2) h')))), by
  intro X C hS pc hc L st k h Q hd hs kk
  obtain ⟨h12, h3⟩ := xand hc
  obtain ⟨h1, h2⟩ := xand h12
  have hd : xcat st + max o.1.2.2.1 (o.1.2.1 + a.1.2.2.1) ≤ 8 := hd
  refine o.2 X C hS pc (pc + o.1.1) h1 xEx.rf L st k h _ (by omega) hs (fun u k1 h1' hu hq => ?_)
  refine a.2 X C hS (pc + o.1.1) h2 L (u :: st) k1 h1' _ (by rw [xcat_cons]; omega) hq (fun vs k2 h2' hl hr => ?_)
  obtain ⟨b, fs, rfl, hb, hk, hM⟩ := hr
  subst hS
  refine x_callV C M.2 hok hb hl (by omega) hM hk.1 hk.2 h3 (fun r h' hq => ?_)
  have e : pc + (o.1.1 + a.1.1 + 3) = pc + o.1.1 + a.1.1 + 3 := by omega
  rw [← e]
  exact kk r _ h' hq⟩
def kS (g : xSig) (M : {M : xMS // xMeets g M}) (i : Nat) (a : AN S) (hok : xcS S g i a.1.2.1 = true) : KN S := ⟨(a.1.1 + 3, a.1.2.2.1, fun cc pc => a.1.2.2.2.1 cc pc && ck cc (pc + a.1.1) (.invokestatic i) 3,
    fun L k h Q => a.1.2.2.2.2 L k h (fun vs k2 h2 => xaf S g k2 ∧ M.1 vs h2 (fun r h' => Q r (xkp g k2) h'))), by
  intro X C hS pc hc L st k h Q hd hs kk
  obtain ⟨h1, h2⟩ := xand hc
  have hd : xcat st + a.1.2.2.1 ≤ 8 := hd
  refine a.2 X C hS pc h1 L st k h _ hd hs (fun vs k2 h2' hl hr => ?_)
  obtain ⟨hk, hM⟩ := hr
  subst hS
  refine x_callS C M.2 hok hl (by omega) hM hk.1 hk.2 h2 (fun r h' hq => ?_)
  rw [Nat.add_assoc]
  exact kk r _ h' hq⟩
/-- a constructor of a superclass or of a new object: o leaves the object, once for the call -/
def kI (g : xSig) (M : {M : xMS // xMeets g M}) (i : Nat) (o : EN S) (a : AN S) (hok : xcI S g i a.1.2.1 = true) : KN S := ⟨(o.1.1 + a.1.1 + 3, max o.1.2.2.1 (o.1.2.1 + a.1.2.2.1), fun cc pc => o.1.2.2.2.1 cc pc (pc + o.1.1) && a.1.2.2.2.1 cc (pc + o.1.1) && ck cc (pc + o.1.1 + a.1.1) (.invokespecial i) 3,
    fun L k h Q => o.1.2.2.2.2 L k h (fun u k1 h1 => a.1.2.2.2.2 L k1 h1 (fun vs k2 h2 => ∃ (b : Nat), u = .ref b ∧ xaf S g k2 ∧ M.1 (u :: vs) h2 (fun r h' => Q r (xkp g k2) h')))), by
  intro X C hS pc hc L st k h Q hd hs kk
  obtain ⟨h12, h3⟩ := xand hc
  obtain ⟨h1, h2⟩ := xand h12
  have hd : xcat st + max o.1.2.2.1 (o.1.2.1 + a.1.2.2.1) ≤ 8 := hd
  refine o.2 X C hS pc (pc + o.1.1) h1 xEx.rf L st k h _ (by omega) hs (fun u k1 h1' hu hq => ?_)
  refine a.2 X C hS (pc + o.1.1) h2 L (u :: st) k1 h1' _ (by rw [xcat_cons]; omega) hq (fun vs k2 h2' hl hr => ?_)
  obtain ⟨b, rfl, hk, hM⟩ := hr
  subst hS
  refine x_callI C M.2 hok hl (by omega) hM hk.1 hk.2 h3 (fun r h' hq => ?_)
  have e : pc + (o.1.1 + a.1.1 + 3) = pc + o.1.1 + a.1.1 + 3 := by omega
  rw [← e]
  exact kk r _ h' hq⟩
/-- a call's value; its category is said -/
def eK (cat : Nat) (c : KN S) : EN S := ⟨(c.1.1, cat, c.1.2.1, fun cc pc _ => c.1.2.2.1 cc pc, fun L k h Q => c.1.2.2.2 L k h (fun r k' h' => ∃ v, r = some v ∧ v.category ≤ cat ∧ Q v k' h')), by
  intro X C hS pc x hc hx L st k h Q hd hs kk
  refine c.2 X C hS pc hc L st k h _ hd hs (fun r k' h' hq => ?_)
  obtain ⟨v, rfl, hv, hq⟩ := hq
  exact hx _ _ _ _ (kk v k' h' hv hq)⟩
/-- new C(..): new, dup, arguments, the constructor -/
def eNew (g : xSig) (M : {M : xMS // xMeets g M}) (ni i ci : Nat) (r0 : vw_C) (hr : vwCl[ci]? = some r0) (hnw : xnwc S.1 ni ci = true) (a : AN S) (hok : xcI S g i a.1.2.1 = true) : EN S := ⟨(4 + a.1.1 + 3, 1, 2 + a.1.2.2.1, fun cc pc _ => ck cc pc (.new ni) 3 && ck cc (pc + 3) .dup 1 && a.1.2.2.2.1 cc (pc + 4) && ck cc (pc + 4 + a.1.1) (.invokespecial i) 3,
    fun L k h Q => k.1 + 1 ≤ S.2.2.2.1 ∧ k.2 + r0.2.2 ≤ S.2.2.2.2.1 ∧ a.1.2.2.2.2 L (k.1 + 1, k.2 + r0.2.2) (xnew h (.inr (ci, xdf r0))) (fun vs k2 h2 => xaf S g k2 ∧ M.1 (.ref h.1 :: vs) h2 (fun r h' => r = none ∧ Q (.ref h.1) (xkp g k2) h'))), by
  intro X C hS pc x hc hx L st k h Q hd hs kk
  obtain ⟨h123, h4⟩ := xand hc
  obtain ⟨h12, h3⟩ := xand h123
  obtain ⟨h1, h2⟩ := xand h12
  obtain ⟨hk1, hk2, hs⟩ := hs
  have hd : xcat st + (2 + a.1.2.2.1) ≤ 8 := hd
  subst hS
  refine x_new C hr hnw hk1 hk2 h1 (x_dup C rfl h2 ?_)
  refine a.2 X C rfl (pc + 4) h3 L (.ref h.1 :: .ref h.1 :: st) _ _ _ (by rw [xcat_cons, xcat_cons]; show 1 + (1 + xcat st) + a.1.2.2.1 ≤ 8; omega) hs (fun vs k2 h2' hl hr => ?_)
  obtain ⟨hk, hM⟩ := hr
  refine x_callI C M.2 hok hl (by rw [xcat_cons]; show 1 + xcat st ≤ 8; omega) hM hk.1 hk.2 h4 (fun r h' hq => ?_)
  obtain ⟨rfl, hq⟩ := hq
  have e : pc + (4 + a.1.1 + 3) = pc + 4 + a.1.1 + 3 := by omega
  exact hx _ _ _ _ (kk _ _ _ (Nat.le_refl _) hq) |> fun z => by rw [← e]; exact z⟩
def eNa (t : ArrayType) (ht : t = .int ∨ t = .long ∨ t = .boolean) (hcl : decide (Cond.arrayClass (xat t) ∈ xG) = true) (n : EN S) : EN S := ⟨(n.1.1 + 2, 1, n.1.2.2.1, fun cc pc _ => n.1.2.2.2.1 cc pc (pc + n.1.1) && ck cc (pc + n.1.1) (.newarray t) 2,
    fun L k h Q => n.1.2.2.2.2 L k h (fun v k' h' => ∃ i : Int32, v = .int i ∧ 0 ≤ i ∧ i.toNatClampNeg ≤ 10000 ∧ k'.1 + 1 ≤ S.2.2.2.1 ∧ k'.2 + i.toNatClampNeg ≤ S.2.2.2.2.1 ∧ Q (.ref h'.1) (k'.1 + 1, k'.2 + i.toNatClampNeg) (xnew h' (xz t i.toNatClampNeg)))), by
  intro X C hS pc x hc hx L st k h Q hd hs kk
  obtain ⟨h1, h2⟩ := xand hc
  refine n.2 X C hS pc (pc + n.1.1) h1 xEx.rf L st k h _ hd hs (fun u k' h' hu hq => ?_)
  obtain ⟨i, rfl, h3, h4, h5, h6, hq⟩ := hq
  subst hS
  refine x_newa C ht (of_decide_eq_true hcl) h3 h4 h5 h6 h2 ?_
  rw [Nat.add_assoc]
  exact hx _ _ _ _ (kk _ _ _ (Nat.le_refl _) hq)⟩
def eNq (i t0 : Nat) (cn : String) (ht : xty[t0]? = some (.object cn)) (hcl : decide (Cond.classLink S.1 i cn ∈ xG) = true) (n : EN S) : EN S := ⟨(n.1.1 + 3, 1, n.1.2.2.1, fun cc pc _ => n.1.2.2.2.1 cc pc (pc + n.1.1) && ck cc (pc + n.1.1) (.anewarray i) 3,
    fun L k h Q => n.1.2.2.2.2 L k h (fun v k' h' => ∃ j : Int32, v = .int j ∧ 0 ≤ j ∧ j.toNatClampNeg ≤ 10000 ∧ k'.1 + 1 ≤ S.2.2.2.1 ∧ k'.2 + j.toNatClampNeg ≤ S.2.2.2.2.1 ∧ Q (.ref h'.1) (k'.1 + 1, k'.2 + j.toNatClampNeg) (xnew h' (.inl (.object cn, j.toNatClampNeg, .inr (.inr (.inr (.inr (fun _ => none)))))))) ), by
  intro X C hS pc x hc hx L st k h Q hd hs kk
  obtain ⟨h1, h2⟩ := xand hc
  refine n.2 X C hS pc (pc + n.1.1) h1 xEx.rf L st k h _ hd hs (fun u k' h' hu hq => ?_)
  obtain ⟨j, rfl, h3, h4, h5, h6, hq⟩ := hq
  subst hS
  refine x_anew C ht (of_decide_eq_true hcl) h3 h4 h5 h6 h2 ?_
  rw [Nat.add_assoc]
  exact hx _ _ _ _ (kk _ _ _ (Nat.le_refl _) hq)⟩
end XT
/-! statements: how they end: on, by break, by continue, by return -/
abbrev xPo : Type := List Value → Nat × Nat → AH → Prop
abbrev xSn : Type := Nat × (ByteArray → Nat → Nat → Nat → Nat → Bool) × (List Value → Nat × Nat → AH → xPo → xPo → xPo → (Option Value → AH → Prop) → Prop)
def xGS (S : xS) (n : xSn) : Prop := ∀ X, xOK X → xst X = S → ∀ pc x bt ct, n.2.1 (xcc X) pc x bt ct = true → xEx X x (pc + n.1) → ∀ L k h N B Ct R, n.2.2 L k h N B Ct R →
  (∀ L' k' h', N L' k' h' → xAt X x L' [] k' h') → (∀ L' k' h', B L' k' h' → xAt X bt L' [] k' h') → (∀ L' k' h', Ct L' k' h' → xAt X ct L' [] k' h') → (∀ r h', R r h' → xRt X r h' ∧ xrv S.2.2.1 r) → xAt X pc L [] k h
def SN (S : xS) : Type := {n : xSn // xGS S n}
section XU
variable {S : xS}
def sNop : SN S := ⟨(0, fun _ _ _ _ _ => true, fun L k h N _ _ _ => N L k h), by
  intro X C hS pc x bt ct hc hx L k h N B Ct R hs hN hB hCt hR
  exact hx _ _ _ _ (hN _ _ _ hs)⟩
def sSeq (a b : SN S) : SN S := ⟨(a.1.1 + b.1.1, fun cc pc x bt ct => a.1.2.1 cc pc (pc + a.1.1) bt ct && b.1.2.1 cc (pc + a.1.1) x bt ct, fun L k h N B Ct R => a.1.2.2 L k h (fun L' k' h' => b.1.2.2 L' k' h' N B Ct R) B Ct R), by
  intro X C hS pc x bt ct hc hx L k h N B Ct R hs hN hB hCt hR
  obtain ⟨h1, h2⟩ := xand hc
  exact a.2 X C hS pc (pc + a.1.1) bt ct h1 xEx.rf L k h _ B Ct R hs (fun L' k' h' hq => b.2 X C hS (pc + a.1.1) x bt ct h2 (by rw [Nat.add_assoc]; exact hx) L' k' h' N B Ct R hq hN hB hCt hR) hB hCt hR⟩
def sBrk : SN S := ⟨(3, fun cc pc _ bt _ => ck cc pc (.goto ((bt : Int) - (pc : Int))) 3, fun L k h _ B _ _ => B L k h), by
  intro X C hS pc x bt ct hc hx L k h N B Ct R hs hN hB hCt hR
  exact x_goto C hc (hB _ _ _ hs)⟩
def sCnt : SN S := ⟨(3, fun cc pc _ _ ct => ck cc pc (.goto ((ct : Int) - (pc : Int))) 3, fun L k h _ _ Ct _ => Ct L k h), by
  intro X C hS pc x bt ct hc hx L k h N B Ct R hs hN hB hCt hR
  exact x_goto C hc (hCt _ _ _ hs)⟩
/-- a statement, then break: what jumps to its end jumps out -/
def sSB (a : SN S) : SN S := ⟨(a.1.1 + 3, fun cc pc _ bt ct => a.1.2.1 cc pc bt bt ct && ck cc (pc + a.1.1) (.goto ((bt : Int) - ((pc + a.1.1 : Nat) : Int))) 3, fun L k h _ B Ct R => a.1.2.2 L k h B B Ct R), by
  intro X C hS pc x bt ct hc hx L k h N B Ct R hs hN hB hCt hR
  obtain ⟨h1, h2⟩ := xand hc
  exact a.2 X C hS pc bt bt ct h1 (fun _ _ _ _ z => x_goto C h2 z) L k h B B Ct R hs hB hB hCt hR⟩
def sSC (a : SN S) : SN S := ⟨(a.1.1 + 3, fun cc pc _ bt ct => a.1.2.1 cc pc ct bt ct && ck cc (pc + a.1.1) (.goto ((ct : Int) - ((pc + a.1.1 : Nat) : Int))) 3, fun L k h _ B Ct R => a.1.2.2 L k h Ct B Ct R), by
  intro X C hS pc x bt ct hc hx L k h N B Ct R hs hN hB hCt hR
  obtain ⟨h1, h2⟩ := xand hc
  exact a.2 X C hS pc ct bt ct h1 (fun _ _ _ _ z => x_goto C h2 z) L k h Ct B Ct R hs hCt hB hCt hR⟩
def sIf (c : DN S) (a : SN S) : SN S := ⟨(c.1.1 + a.1.1, fun cc pc x bt ct => decide (c.1.2.1 ≤ 8) && c.1.2.2.1 false cc pc x (pc + c.1.1) && a.1.2.1 cc (pc + c.1.1) x bt ct, fun L k h N B Ct R => c.1.2.2.2 L k h (fun v k' h' => if v = true then a.1.2.2 L k' h' N B Ct R else N L k' h')), by
  intro X C hS pc x bt ct hc hx L k h N B Ct R hs hN hB hCt hR
  obtain ⟨h01, h2⟩ := xand hc
  obtain ⟨h0, h1⟩ := xand h01
  refine c.2 X C hS false pc x (pc + c.1.1) h1 xEx.rf L [] k h _ (by have := of_decide_eq_true h0; simp [xcat]; omega) hs (fun v k' h' hq z => ?_) (fun v k' h' hq z => ?_)
  · subst z; exact hN _ _ _ hq
  · have hv : v = true := by simpa using z
    subst hv
    exact a.2 X C hS (pc + c.1.1) x bt ct h2 (by rw [Nat.add_assoc]; exact hx) L k' h' N B Ct R hq hN hB hCt hR⟩
def sIfE (c : DN S) (a b : SN S) : SN S := ⟨(c.1.1 + a.1.1 + 3 + b.1.1, fun cc pc x bt ct => decide (c.1.2.1 ≤ 8) && c.1.2.2.1 false cc pc (pc + c.1.1 + a.1.1 + 3) (pc + c.1.1) && a.1.2.1 cc (pc + c.1.1) x bt ct && ck cc (pc + c.1.1 + a.1.1) (.goto ((x : Int) - ((pc + c.1.1 + a.1.1 : Nat) : Int))) 3 && b.1.2.1 cc (pc + c.1.1 + a.1.1 + 3) x bt ct, fun L k h N B Ct R => c.1.2.2.2 L k h (fun v k' h' => if v = true then a.1.2.2 L k' h' N B Ct R else b.1.2.2 L k' h' N B Ct R)), by
  intro X C hS pc x bt ct hc hx L k h N B Ct R hs hN hB hCt hR
  obtain ⟨h0123, h4⟩ := xand hc
  obtain ⟨h012, h3⟩ := xand h0123
  obtain ⟨h01, h2⟩ := xand h012
  obtain ⟨h0, h1⟩ := xand h01
  refine c.2 X C hS false pc (pc + c.1.1 + a.1.1 + 3) (pc + c.1.1) h1 xEx.rf L [] k h _ (by have := of_decide_eq_true h0; simp [xcat]; omega) hs (fun v k' h' hq z => ?_) (fun v k' h' hq z => ?_)
  · subst z
    have e : pc + c.1.1 + a.1.1 + 3 + b.1.1 = pc + (c.1.1 + a.1.1 + 3 + b.1.1) := by omega
    exact b.2 X C hS (pc + c.1.1 + a.1.1 + 3) x bt ct h4 (by rw [e]; exact hx) L k' h' N B Ct R hq hN hB hCt hR
  · have hv : v = true := by simpa using z
    subst hv
    exact a.2 X C hS (pc + c.1.1) x bt ct h2 (fun _ _ _ _ z => x_goto C h3 z) L k' h' N B Ct R hq hN hB hCt hR⟩
/-- the then-part never ends by itself -/
def sIfR (c : DN S) (a b : SN S) : SN S := ⟨(c.1.1 + a.1.1 + b.1.1, fun cc pc x bt ct => decide (c.1.2.1 ≤ 8) && c.1.2.2.1 false cc pc (pc + c.1.1 + a.1.1) (pc + c.1.1) && a.1.2.1 cc (pc + c.1.1) (pc + c.1.1 + a.1.1) bt ct && b.1.2.1 cc (pc + c.1.1 + a.1.1) x bt ct, fun L k h N B Ct R => c.1.2.2.2 L k h (fun v k' h' => if v = true then a.1.2.2 L k' h' (fun _ _ _ => False) B Ct R else b.1.2.2 L k' h' N B Ct R)), by
  intro X C hS pc x bt ct hc hx L k h N B Ct R hs hN hB hCt hR
  obtain ⟨h012, h3⟩ := xand hc
  obtain ⟨h01, h2⟩ := xand h012
  obtain ⟨h0, h1⟩ := xand h01
  refine c.2 X C hS false pc (pc + c.1.1 + a.1.1) (pc + c.1.1) h1 xEx.rf L [] k h _ (by have := of_decide_eq_true h0; simp [xcat]; omega) hs (fun v k' h' hq z => ?_) (fun v k' h' hq z => ?_)
  · subst z
    have e : pc + c.1.1 + a.1.1 + b.1.1 = pc + (c.1.1 + a.1.1 + b.1.1) := by omega
    exact b.2 X C hS (pc + c.1.1 + a.1.1) x bt ct h3 (by rw [e]; exact hx) L k' h' N B Ct R hq hN hB hCt hR
  · have hv : v = true := by simpa using z
    subst hv
    exact a.2 X C hS (pc + c.1.1) (pc + c.1.1 + a.1.1) bt ct h2 xEx.rf L k' h' _ B Ct R hq (fun _ _ _ z => z.elim) hB hCt hR⟩
/-- so many turns at most: the condition, the body, what goes on -/
def xlp (c : List Value → Nat × Nat → AH → (Bool → Nat × Nat → AH → Prop) → Prop) (b u : List Value → Nat × Nat → AH → xPo → xPo → xPo → (Option Value → AH → Prop) → Prop) (N B Ct : xPo) (R : Option Value → AH → Prop) : Nat → xPo
  | 0 => fun _ _ _ => False
  | n + 1 => fun L k h => c L k h (fun v k' h' => if v = true then b L k' h' (fun L2 k2 h2 => u L2 k2 h2 (xlp c b u N B Ct R n) B Ct R) N (fun L2 k2 h2 => u L2 k2 h2 (xlp c b u N B Ct R n) B Ct R) R else N L k' h')
/-- a loop: condition, body, what goes on (empty or not), back -/
def sLp (c : DN S) (b u : SN S) (e : Bool) : SN S := ⟨(c.1.1 + b.1.1 + u.1.1 + 3, fun cc pc x _ _ => decide (c.1.2.1 ≤ 8) && c.1.2.2.1 false cc pc x (pc + c.1.1) && b.1.2.1 cc (pc + c.1.1) (if e = true then pc else pc + c.1.1 + b.1.1) x (if e = true then pc else pc + c.1.1 + b.1.1) && u.1.2.1 cc (pc + c.1.1 + b.1.1) (pc + c.1.1 + b.1.1 + u.1.1) 0 0 && ck cc (pc + c.1.1 + b.1.1 + u.1.1) (.goto ((pc : Int) - ((pc + c.1.1 + b.1.1 + u.1.1 : Nat) : Int))) 3 && (!e || decide (u.1.1 = 0)),
    fun L k h N _ _ R => ∃ n, xlp c.1.2.2.2 b.1.2.2 (if e = true then (fun L k h N _ _ _ => N L k h) else u.1.2.2) N (fun _ _ _ => False) (fun _ _ _ => False) R n L k h), by
  intro X C hS pc x bt ct hc hx L k h N B Ct R hs hN hB hCt hR
  obtain ⟨h01234, h5⟩ := xand hc
  obtain ⟨h0123, h4⟩ := xand h01234
  obtain ⟨h012, h3⟩ := xand h0123
  obtain ⟨h01, h2⟩ := xand h012
  obtain ⟨h0, h1⟩ := xand h01
  obtain ⟨n, hs⟩ := hs
  induction n generalizing L k h with
  | zero => exact hs.elim
  | succ n ih =>
    refine c.2 X C hS false pc x (pc + c.1.1) h1 xEx.rf L [] k h _ (by have := of_decide_eq_true h0; simp [xcat]; omega) hs (fun v k' h' hq z => ?_) (fun v k' h' hq z => ?_)
    · subst z; exact hN _ _ _ hq
    · have hv : v = true := by simpa using z
      subst hv
      cases e with
      | true =>
        have hu0 : u.1.1 = 0 := by simpa using h5
        have h4' : ck (xcc X) (pc + c.1.1 + b.1.1) (.goto ((pc : Int) - ((pc + c.1.1 + b.1.1 : Nat) : Int))) 3 = true := by simpa [hu0] using h4
        exact b.2 X C hS (pc + c.1.1) pc x pc h2 (fun _ _ _ _ z => x_goto C h4' z) L k' h' _ N _ R hq (fun L2 k2 h2 hq => ih L2 k2 h2 hq) hN (fun L2 k2 h2 hq => ih L2 k2 h2 hq) hR
      | false =>
        have go : ∀ L2 k2 h2', u.1.2.2 L2 k2 h2' (xlp c.1.2.2.2 b.1.2.2 u.1.2.2 N (fun _ _ _ => False) (fun _ _ _ => False) R n) (fun _ _ _ => False) (fun _ _ _ => False) R → xAt X (pc + c.1.1 + b.1.1) L2 [] k2 h2' := fun L2 k2 h2' hq =>
          u.2 X C hS (pc + c.1.1 + b.1.1) (pc + c.1.1 + b.1.1 + u.1.1) 0 0 h3 xEx.rf L2 k2 h2' _ _ _ R hq (fun L3 k3 h3' hq => x_goto C h4 (ih L3 k3 h3' hq)) (fun _ _ _ z => z.elim) (fun _ _ _ z => z.elim) hR
        exact b.2 X C hS (pc + c.1.1) (pc + c.1.1 + b.1.1) x (pc + c.1.1 + b.1.1) h2 xEx.rf L k' h' _ N _ R hq go hN go hR⟩
end XU
