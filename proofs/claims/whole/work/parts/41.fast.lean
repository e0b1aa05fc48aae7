/-! the same rows, so made that what comes behind is not looked at ahead of its time -/
def xFx.{u} {α : Sort u} (_ : α) : Type := Unit
def fx.{u} {α : Sort u} {a : α} : xFx a := ()
def ob {α : Type} (E : Option α) (K : α → Prop) (_ : xFx K) : Prop := ∃ v, E = some v ∧ K v
def gd (p : Prop) (K : Prop) (_ : xFx K) : Prop := p ∧ K
def okv (ci : Nat) (h : AH) (u : Value) : Prop := ∃ (b : Nat) (fs : List Value), u = .ref b ∧ h.2 b = some (.inr (ci, fs))
def okx (u : Value) : Prop := ∃ (b : Nat), u = .retAddr (1 + b) ∧ b < 6
def xai (v : Value) : Option Int32 := match v with | .int a => some a | _ => none
def lq (c : List Value → Nat × Nat → AH → (Bool → Nat × Nat → AH → Prop) → Prop) (b u : List Value → Nat × Nat → AH → xPo → xPo → xPo → (Option Value → AH → Prop) → Prop) (N : xPo) (R : Option Value → AH → Prop) (_ : xFx (c, b, u, N, R)) (L : List Value) (k : Nat × Nat) (h : AH) : Prop := ∃ n, xlp c b u N (fun _ _ _ => False) (fun _ _ _ => False) R n L k h
theorem ob_s {α : Type} (v : α) (K : α → Prop) (f : xFx K) : ob (some v) K f = K v := by
  simp only [ob, Option.some.injEq, exists_eq_left']
theorem ob_n {α : Type} (K : α → Prop) (f : xFx K) : ob none K f = False := by
  simp only [ob, reduceCtorEq, false_and, exists_false]
theorem gd_t (K : Prop) (f : xFx K) : gd True K f = K := by simp only [gd, true_and]
theorem gd_f (K : Prop) (f : xFx K) : gd False K f = False := by simp only [gd, false_and]
theorem okv_r (ci b : Nat) (h : AH) (fs : List Value) (e : h.2 b = some (.inr (ci, fs))) : okv ci h (.ref b) = True := by
  simp only [okv, eq_iff_iff, iff_true]; exact ⟨b, fs, rfl, e⟩
theorem okx_r (b : Nat) (e : b < 6) : okx (.retAddr (1 + b)) = True := by
  simp only [okx, eq_iff_iff, iff_true]; exact ⟨b, rfl, e⟩
theorem xai_i (a : Int32) : xai (.int a) = some a := rfl
section YY
variable {S : xS} (L : List Value) (k : Nat × Nat) (h : AH)
theorem yEP (a : PN S) (Q) : (eP a).1.2.2.2.2 L k h Q = ob (a.1.2.2.2 L h) (fun v => Q v k h) fx := rfl
theorem yEU (o : UO S) (a : EN S) (Q) : (eU o a).1.2.2.2.2 L k h Q = a.1.2.2.2.2 L k h (fun u k' h' => ob (o.1.2.2.2 h' u) (fun v => Q v k' h') fx) := rfl
theorem yEB (o : BO S) (a b : EN S) (Q) : (eB o a b).1.2.2.2.2 L k h Q = a.1.2.2.2.2 L k h (fun u k' h' => b.1.2.2.2.2 L k' h' (fun t k2 h2 => ob (o.1.2.2.2 h2 u t) (fun v => Q v k2 h2) fx)) := rfl
theorem yDC (a : CN S) (Q) : (dC a).1.2.2.2 L k h Q = ob (a.1.2.2 L h) (fun v => Q v k h) fx := rfl
theorem yDIf (c : ClassFile.Cond) (a : EN S) (Q) : (dIf c a).1.2.2.2 L k h Q = a.1.2.2.2.2 L k h (fun u k' h' => ob (fIf c u) (fun v => Q v k' h') fx) := rfl
theorem yDCm (c : ClassFile.Cond) (a e : EN S) (Q) : (dCm c a e).1.2.2.2 L k h Q = a.1.2.2.2.2 L k h (fun u k' h' => e.1.2.2.2.2 L k' h' (fun t k2 h2 => ob (fCm c u t) (fun v => Q v k2 h2) fx)) := rfl
theorem yKV (g : xSig) (M : {M : xMS // xMeets g M}) (i ci : Nat) (o : EN S) (a : AN S) (hok) (Q) : (kV g M i ci o a hok).1.2.2.2 L k h Q = o.1.2.2.2.2 L k h (fun u k1 h1 => a.1.2.2.2.2 L k1 h1 (fun vs k2 h2 => gd (okv ci h2 u) (gd (xaf S g k2) (M.1 (u :: vs) h2 (fun r h' => Q r (xkp g k2) h')) fx) fx)) := by
  rw [zKV]
  refine congrArg (o.1.2.2.2.2 L k h) (funext fun u => funext fun k1 => funext fun h1 => congrArg (a.1.2.2.2.2 L k1 h1) (funext fun vs => funext fun k2 => funext fun h2 => ?_))
  simp only [gd, okv]
  exact propext ⟨fun ⟨b, fs, h1, h2, h3, h4⟩ => ⟨⟨b, fs, h1, h2⟩, h3, h4⟩, fun ⟨⟨b, fs, h1, h2⟩, h3, h4⟩ => ⟨b, fs, h1, h2, h3, h4⟩⟩
theorem yKS (g : xSig) (M : {M : xMS // xMeets g M}) (i : Nat) (a : AN S) (hok) (Q) : (kS g M i a hok).1.2.2.2 L k h Q = a.1.2.2.2.2 L k h (fun vs k2 h2 => gd (xaf S g k2) (M.1 vs h2 (fun r h' => Q r (xkp g k2) h')) fx) := rfl
theorem yKX (g : xSig) (M : {M : xMS // xMeets g M}) (i : Nat) (o : EN S) (a : AN S) (hok) (Q) : (kX g M i o a hok).1.2.2.2 L k h Q = o.1.2.2.2.2 L k h (fun u k1 h1 => a.1.2.2.2.2 L k1 h1 (fun vs k2 h2 => gd (okx u) (gd (xaf S g k2) (M.1 (u :: vs) h2 (fun r h' => Q r (xkp g k2) h')) fx) fx)) := by
  rw [zKX]
  refine congrArg (o.1.2.2.2.2 L k h) (funext fun u => funext fun k1 => funext fun h1 => congrArg (a.1.2.2.2.2 L k1 h1) (funext fun vs => funext fun k2 => funext fun h2 => ?_))
  simp only [gd, okx]
  exact propext ⟨fun ⟨b, h1, h2, h3, h4⟩ => ⟨⟨b, h1, h2⟩, h3, h4⟩, fun ⟨⟨b, h1, h2⟩, h3, h4⟩ => ⟨b, h1, h2, h3, h4⟩⟩
theorem yKAc (i : Nat) (a : AN S) (hok) (Q) : (kAc i a hok).1.2.2.2 L k h Q = a.1.2.2.2.2 L k h (fun vs k2 h2 => ob (fAcp h2 vs) (fun h' => Q none k2 h') fx) := rfl
theorem yEK (cat : Nat) (c : KN S) (Q) : (eK cat c).1.2.2.2.2 L k h Q = c.1.2.2.2 L k h (fun r k' h' => ob r (fun v => gd (v.category ≤ cat) (Q v k' h') fx) fx) := rfl
theorem yENew (g : xSig) (M : {M : xMS // xMeets g M}) (ni i ci : Nat) (r0 : vw_C) (hr) (hnw) (a : AN S) (hok) (Q) : (eNew g M ni i ci r0 hr hnw a hok).1.2.2.2.2 L k h Q = gd (k.1 + 1 ≤ S.2.2.2.1) (gd (k.2 + r0.2.2 ≤ S.2.2.2.2.1) (a.1.2.2.2.2 L (k.1 + 1, k.2 + r0.2.2) (xnew h (.inr (ci, xdf r0))) (fun vs k2 h2 => gd (xaf S g k2) (M.1 (.ref h.1 :: vs) h2 (fun r h' => gd (r = none) (Q (.ref h.1) (xkp g k2) h') fx)) fx)) fx) fx := rfl
theorem yENa (t : ArrayType) (ht) (hcl) (n : EN S) (Q) : (eNa t ht hcl n).1.2.2.2.2 L k h Q = n.1.2.2.2.2 L k h (fun v k' h' => ob (xai v) (fun i => gd (0 ≤ i ∧ i.toNatClampNeg ≤ 10000) (gd (k'.1 + 1 ≤ S.2.2.2.1 ∧ k'.2 + i.toNatClampNeg ≤ S.2.2.2.2.1) (Q (.ref h'.1) (k'.1 + 1, k'.2 + i.toNatClampNeg) (xnew h' (xz t i.toNatClampNeg))) fx) fx) fx) := by
  rw [zENa]
  refine congrArg (n.1.2.2.2.2 L k h) (funext fun v => funext fun k' => funext fun h' => ?_)
  simp only [gd, ob]
  refine propext ⟨fun ⟨i, e, h1, h2, h3, h4, h5⟩ => ⟨i, by rw [e]; rfl, ⟨h1, h2⟩, ⟨h3, h4⟩, h5⟩, fun ⟨i, e, ⟨h1, h2⟩, ⟨h3, h4⟩, h5⟩ => ⟨i, ?_, h1, h2, h3, h4, h5⟩⟩
  cases v <;> simp_all [xai]
theorem ySSt (o : LO S) (e : EN S) (N B Ct R) : (sSt o e).1.2.2 L k h N B Ct R = e.1.2.2.2.2 L k h (fun v k' h' => ob (o.1.2.2 L v) (fun L' => N L' k' h') fx) := rfl
theorem ySInc (i : Nat) (n : Int) (N B Ct R) : (sInc i n : SN S).1.2.2 L k h N B Ct R = ob (fInc i n L) (fun L' => N L' k h) fx := rfl
theorem ySPut (q : QO S) (o e : EN S) (N B Ct R) : (sPut q o e).1.2.2 L k h N B Ct R = o.1.2.2.2.2 L k h (fun u k1 h1 => e.1.2.2.2.2 L k1 h1 (fun v k2 h2 => ob (q.1.2 h2 u v) (fun h' => N L k2 h') fx)) := rfl
theorem ySPutC (q : QO S) (g : UO S) (p : BO S) (o : PN S) (e : EN S) (N B Ct R) : (sPutC q g p o e).1.2.2 L k h N B Ct R = ob (o.1.2.2.2 L h) (fun u => gd (u.category = 1) (ob (g.1.2.2.2 h u) (fun v0 => e.1.2.2.2.2 L k h (fun t k2 h2 => ob (p.1.2.2.2 h2 v0 t) (fun v => ob (q.1.2 h2 u v) (fun h' => N L k2 h') fx) fx)) fx) fx) fx := rfl
theorem ySAst (o : TO S) (r i e : EN S) (N B Ct R) : (sAst o r i e).1.2.2 L k h N B Ct R = r.1.2.2.2.2 L k h (fun u k1 h1 => i.1.2.2.2.2 L k1 h1 (fun j k2 h2 => e.1.2.2.2.2 L k2 h2 (fun v k3 h3 => ob (o.1.2 h3 u j v) (fun h' => N L k3 h') fx))) := rfl
theorem ySAstC (o : TO S) (g p : BO S) (r i : PN S) (e : EN S) (N B Ct R) : (sAstC o g p r i e).1.2.2 L k h N B Ct R = ob (r.1.2.2.2 L h) (fun u => gd (u.category = 1) (ob (i.1.2.2.2 L h) (fun j => gd (j.category = 1) (ob (g.1.2.2.2 h u j) (fun v0 => e.1.2.2.2.2 L k h (fun t k2 h2 => ob (p.1.2.2.2 h2 v0 t) (fun v => ob (o.1.2 h2 u j v) (fun h' => N L k2 h') fx) fx)) fx) fx) fx) fx) fx := rfl
theorem ySK (c : KN S) (N B Ct R) : (sK c).1.2.2 L k h N B Ct R = c.1.2.2.2 L k h (fun r k' h' => gd (r = none) (N L k' h') fx) := rfl
theorem ySKp (c : KN S) (N B Ct R) : (sKp c).1.2.2 L k h N B Ct R = c.1.2.2.2 L k h (fun r k' h' => ob r (fun v => gd (v.category = 1) (N L k' h') fx) fx) := rfl
theorem ySR (i : Instr) (e : EN S) (N B Ct R) : (sR i e).1.2.2 L k h N B Ct R = e.1.2.2.2.2 L k h (fun v _ h' => gd (xrI (some v) = i) (R (some v) h') fx) := rfl
theorem ySLp (c : DN S) (b u : SN S) (N B Ct R) : (sLp c b u false).1.2.2 L k h N B Ct R = lq c.1.2.2.2 b.1.2.2 u.1.2.2 N R fx L k h := rfl
theorem ySWh (c : DN S) (b u : SN S) (N B Ct R) : (sLp c b u true).1.2.2 L k h N B Ct R = lq c.1.2.2.2 b.1.2.2 (fun L k h N _ _ _ => N L k h) N R fx L k h := rfl
theorem ySSw (e : EN S) (pad : Nat) (lo : Int) (tab : List Nat) (df : Nat) (bs : List (SN S)) (N B Ct R) : (sSw e pad lo tab df bs).1.2.2 L k h N B Ct R = e.1.2.2.2.2 L k h (fun v k' h' => ob (xai v) (fun a => xbs (bs.drop (xsl lo tab df a)) L k' h' N Ct R) fx) := by
  rw [zSSw]
  refine congrArg (e.1.2.2.2.2 L k h) (funext fun v => funext fun k' => funext fun h' => ?_)
  simp only [ob]
  refine propext ⟨fun ⟨i, e, h1⟩ => ⟨i, by rw [e]; rfl, h1⟩, fun ⟨i, e, h1⟩ => ⟨i, ?_, h1⟩⟩
  cases v <;> simp_all [xai]
end YY
