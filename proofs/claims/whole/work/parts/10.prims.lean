/-! stores, puts, returns, switches -/
abbrev xTo : Type := Instr × (AH → Value → Value → Value → Option AH)
def xGT (S : xS) (o : xTo) : Prop := ∀ X, xOK X → xst X = S → ∀ pc L st k h a b v h', o.2 h a b v = some h' → ck (xcc X) pc o.1 1 = true → xAt X (pc + 1) L st k h' → xAt X pc L (v :: b :: a :: st) k h
def TO (S : xS) : Type := {o : xTo // xGT S o}
abbrev xQo : Type := Instr × (AH → Value → Value → Option AH)
def xGQ (S : xS) (o : xQo) : Prop := ∀ X, xOK X → xst X = S → ∀ pc L st k h a v h', o.2 h a v = some h' → ck (xcc X) pc o.1 3 = true → xAt X (pc + 3) L st k h' → xAt X pc L (v :: a :: st) k h
def QO (S : xS) : Type := {o : xQo // xGQ S o}
abbrev xLo : Type := Instr × Nat × (List Value → Value → Option (List Value))
def xGL (S : xS) (o : xLo) : Prop := ∀ X, xOK X → xst X = S → ∀ pc L L' st k h v, o.2.2 L v = some L' → ck (xcc X) pc o.1 o.2.1 = true → xAt X (pc + o.2.1) L' st k h → xAt X pc L (v :: st) k h
def LO (S : xS) : Type := {o : xLo // xGL S o}
section XV
variable {S : xS}
def fIast (h : AH) (a b v : Value) : Option AH := match a, b, v with
  | .ref q, .int i, .int x => match h.2 q with
    | some (.inl (.int, n, .inl f)) => if xinb i n = true then some (xput h q (.inl (.int, n, .inl (xupd f i.toNatClampNeg x)))) else none
    | _ => none
  | _, _, _ => none
def fLast (h : AH) (a b v : Value) : Option AH := match a, b, v with
  | .ref q, .int i, .long x => match h.2 q with
    | some (.inl (.long, n, .inr (.inl f))) => if xinb i n = true then some (xput h q (.inl (.long, n, .inr (.inl (xupd f i.toNatClampNeg x))))) else none
    | _ => none
  | _, _, _ => none
def fZast (h : AH) (a b v : Value) : Option AH := match a, b, v with
  | .ref q, .int i, .int x => match h.2 q with
    | some (.inl (.boolean, n, .inl f)) => if xinb i n = true ∧ xfit .boolean (.int x) = true then some (xput h q (.inl (.boolean, n, .inl (xupd f i.toNatClampNeg x)))) else none
    | _ => none
  | _, _, _ => none
def fAast (cn : String) (ci : Nat) (h : AH) (a b v : Value) : Option AH := match a, b, v with
  | .ref q, .int i, .ref u => match h.2 q, h.2 u with
    | some (.inl (.object c, n, .inr (.inr (.inr (.inr f))))), some (.inr (d, _)) => if c = cn ∧ d = ci ∧ xinb i n = true then some (xput h q (.inl (.object c, n, .inr (.inr (.inr (.inr (xupd f i.toNatClampNeg (some u)))))))) else none
    | _, _ => none
  | .ref q, .int i, .null => match h.2 q with
    | some (.inl (.object c, n, .inr (.inr (.inr (.inr f))))) => if c = cn ∧ xinb i n = true then some (xput h q (.inl (.object c, n, .inr (.inr (.inr (.inr (xupd f i.toNatClampNeg none))))))) else none
    | _ => none
  | _, _, _ => none
def tIast : TO S := ⟨(.iastore, fIast), by
  intro X C _ pc L st k h a b v h' hv d kk
  simp only [fIast] at hv
  split at hv
  · split at hv
    · split at hv
      · next hq hi => cases hv; exact x_iast C hq hi d kk
      · cases hv
    · cases hv
  · cases hv⟩
def tLast : TO S := ⟨(.lastore, fLast), by
  intro X C _ pc L st k h a b v h' hv d kk
  simp only [fLast] at hv
  split at hv
  · split at hv
    · split at hv
      · next hq hi => cases hv; exact x_last C hq hi d kk
      · cases hv
    · cases hv
  · cases hv⟩
def tZast : TO S := ⟨(.bastore, fZast), by
  intro X C _ pc L st k h a b v h' hv d kk
  simp only [fZast] at hv
  split at hv
  · split at hv
    · split at hv
      · next hq hi => cases hv; exact x_zast C hi.2 hq hi.1 d kk
      · cases hv
    · cases hv
  · cases hv⟩
def tAast (t0 ci : Nat) (r0 : vw_C) (hr0 : vwCl[ci]? = some r0) (ht : xty[t0]? = some (.object r0.1)) : TO S := ⟨(.aastore, fAast r0.1 ci), by
  intro X C _ pc L st k h a b v h' hv d kk
  simp only [fAast] at hv
  split at hv
  · split at hv
    · split at hv
      · next hq hu hi =>
        cases hv
        obtain ⟨rfl, rfl, hi⟩ := hi
        exact x_aast C hr0 ht hu hq hi d kk
      · cases hv
    · cases hv
  · split at hv
    · split at hv
      · next hq hi =>
        cases hv
        obtain ⟨rfl, hi⟩ := hi
        exact x_aastN C ht hq hi d kk
      · cases hv
    · cases hv
  · cases hv⟩
def fPut (ci kx : Nat) (ty : FieldType) (h : AH) (a v : Value) : Option AH := match a with
  | .ref q => match h.2 q with
    | some (.inr (c, fs)) => if c = ci ∧ kx < fs.length ∧ xfit ty v = true then some (xput h q (.inr (ci, fs.set kx v))) else none
    | _ => none
  | _ => none
def qPut (i ci kx : Nat) (ty : FieldType) (hf : xfl S.1 i ci kx = true) (hfi : xfin (S.1, S.2.1.1) ci kx = true) (hty : decide ((vwCl[ci]?).map (fun r => xtyB r kx) = some ty) = true) : QO S := ⟨(.putfield i, fPut ci kx ty), by
  intro X C hS pc L st k h a v h' hv d kk
  have hty := of_decide_eq_true hty
  simp only [fPut] at hv
  split at hv
  · split at hv
    · split at hv
      · next hq hi =>
        cases hv
        obtain ⟨rfl, hl, hi⟩ := hi
        subst hS
        exact x_put C hf hfi hq hl (fun r hr => by rw [hr] at hty; have e9 : xtyB r kx = ty := Option.some.inj hty; rw [e9]; exact hi) d kk
      · cases hv
    · cases hv
  · cases hv⟩
def fSi (i : Nat) (L : List Value) (v : Value) : Option (List Value) := match v with
  | .int x => if i < L.length then some (xs1 L i (.int x)) else none
  | _ => none
def fSl (i : Nat) (L : List Value) (v : Value) : Option (List Value) := match v with
  | .long x => if i + 1 < L.length then some (xs2 L i (.long x)) else none
  | _ => none
def fSa (i : Nat) (L : List Value) (v : Value) : Option (List Value) := if xisr v = true ∧ i < L.length then some (xs1 L i v) else none
def lIn (i : Fin 4) : LO S := ⟨(.istore_n i, 1, fSi i.val), by
  intro X C _ pc L L' st k h v hv d kk
  simp only [fSi] at hv
  split at hv
  · split at hv
    · next hi => cases hv; exact x_istore_n C hi d kk
    · cases hv
  · cases hv⟩
def lI (i : Nat) : LO S := ⟨(.istore i, 2, fSi i), by
  intro X C _ pc L L' st k h v hv d kk
  simp only [fSi] at hv
  split at hv
  · split at hv
    · next hi => cases hv; exact x_istore C hi d kk
    · cases hv
  · cases hv⟩
def lLn (i : Fin 4) : LO S := ⟨(.lstore_n i, 1, fSl i.val), by
  intro X C _ pc L L' st k h v hv d kk
  simp only [fSl] at hv
  split at hv
  · split at hv
    · next hi => cases hv; exact x_lstore_n C hi d kk
    · cases hv
  · cases hv⟩
def lL (i : Nat) : LO S := ⟨(.lstore i, 2, fSl i), by
  intro X C _ pc L L' st k h v hv d kk
  simp only [fSl] at hv
  split at hv
  · split at hv
    · next hi => cases hv; exact x_lstore C hi d kk
    · cases hv
  · cases hv⟩
def lAn (i : Fin 4) : LO S := ⟨(.astore_n i, 1, fSa i.val), by
  intro X C _ pc L L' st k h v hv d kk
  simp only [fSa] at hv
  split at hv
  · next hi => cases hv; exact x_astore_n C hi.1 hi.2 d kk
  · cases hv⟩
def lA (i : Nat) : LO S := ⟨(.astore i, 2, fSa i), by
  intro X C _ pc L L' st k h v hv d kk
  simp only [fSa] at hv
  split at hv
  · next hi => cases hv; exact x_astore C hi.1 hi.2 d kk
  · cases hv⟩
/-- a local := e -/
def sSt (o : LO S) (e : EN S) : SN S := ⟨(e.1.1 + o.1.2.1, fun cc pc _ _ _ => decide (e.1.2.2.1 ≤ 8) && e.1.2.2.2.1 cc pc (pc + e.1.1) && ck cc (pc + e.1.1) o.1.1 o.1.2.1, fun L k h N _ _ _ => e.1.2.2.2.2 L k h (fun v k' h' => ∃ L', o.1.2.2 L v = some L' ∧ N L' k' h')), by
  intro X C hS pc x bt ct hc hx L k h N B Ct R hs hN hB hCt hR
  obtain ⟨h01, h2⟩ := xand hc
  obtain ⟨h0, h1⟩ := xand h01
  refine e.2 X C hS pc (pc + e.1.1) h1 xEx.rf L [] k h _ (by have := of_decide_eq_true h0; simp [xcat]; omega) hs (fun v k' h' hv hq => ?_)
  obtain ⟨L', hl, hq⟩ := hq
  exact o.2 X C hS (pc + e.1.1) L L' [] k' h' v hl h2 (by rw [Nat.add_assoc]; exact hx _ _ _ _ (hN _ _ _ hq))⟩
def fInc (i : Nat) (n : Int) (L : List Value) : Option (List Value) := match L[i]? with
  | some (.int v) => some (xs1 L i (.int (v + Int32.ofInt n)))
  | _ => none
def sInc (i : Nat) (n : Int) : SN S := ⟨(3, fun cc pc _ _ _ => ck cc pc (.iinc i n) 3, fun L k h N _ _ _ => ∃ L', fInc i n L = some L' ∧ N L' k h), by
  intro X C hS pc x bt ct hc hx L k h N B Ct R hs hN hB hCt hR
  obtain ⟨L', hl, hq⟩ := hs
  simp only [fInc] at hl
  split at hl
  · next hv => cases hl; exact x_iinc C hv hc (hx _ _ _ _ (hN _ _ _ hq))
  · cases hl⟩
/-- a field := e -/
def sPut (q : QO S) (o e : EN S) : SN S := ⟨(o.1.1 + e.1.1 + 3, fun cc pc _ _ _ => decide (o.1.2.2.1 ≤ 8) && decide (o.1.2.1 + e.1.2.2.1 ≤ 8) && o.1.2.2.2.1 cc pc (pc + o.1.1) && e.1.2.2.2.1 cc (pc + o.1.1) (pc + o.1.1 + e.1.1) && ck cc (pc + o.1.1 + e.1.1) q.1.1 3, fun L k h N _ _ _ => o.1.2.2.2.2 L k h (fun u k1 h1 => e.1.2.2.2.2 L k1 h1 (fun v k2 h2 => ∃ h', q.1.2 h2 u v = some h' ∧ N L k2 h'))), by
  intro X C hS pc x bt ct hc hx L k h N B Ct R hs hN hB hCt hR
  obtain ⟨h0123, h4⟩ := xand hc
  obtain ⟨h012, h3⟩ := xand h0123
  obtain ⟨h01, h2⟩ := xand h012
  obtain ⟨h0, h1⟩ := xand h01
  have h0 := of_decide_eq_true h0
  have h1 := of_decide_eq_true h1
  refine o.2 X C hS pc (pc + o.1.1) h2 xEx.rf L [] k h _ (by simp [xcat]; omega) hs (fun u k1 h1' hu hq => ?_)
  refine e.2 X C hS (pc + o.1.1) (pc + o.1.1 + e.1.1) h3 xEx.rf L [u] k1 h1' _ (by rw [xcat_cons]; simp [xcat]; omega) hq (fun v k2 h2' hv hr => ?_)
  obtain ⟨h', hp, hr⟩ := hr
  have e9 : pc + (o.1.1 + e.1.1 + 3) = pc + o.1.1 + e.1.1 + 3 := by omega
  exact q.2 X C hS (pc + o.1.1 + e.1.1) L [] k2 h2' u v h' hp h4 (by rw [← e9]; exact hx _ _ _ _ (hN _ _ _ hr))⟩
/-- a field op= e -/
def sPutC (q : QO S) (g : UO S) (p : BO S) (o : PN S) (e : EN S) : SN S := ⟨(o.1.1 + 1 + g.1.2.1 + e.1.1 + p.1.2.1 + 3, fun cc pc _ _ _ => decide (o.1.2.1 + g.1.2.2.1 + e.1.2.2.1 ≤ 8) && decide (o.1.2.1 ≤ 1) && o.1.2.2.1 cc pc (pc + o.1.1) && ck cc (pc + o.1.1) .dup 1 && ck cc (pc + o.1.1 + 1) g.1.1 g.1.2.1 && e.1.2.2.2.1 cc (pc + o.1.1 + 1 + g.1.2.1) (pc + o.1.1 + 1 + g.1.2.1 + e.1.1) && ck cc (pc + o.1.1 + 1 + g.1.2.1 + e.1.1) p.1.1 p.1.2.1 && ck cc (pc + o.1.1 + 1 + g.1.2.1 + e.1.1 + p.1.2.1) q.1.1 3,
    fun L k h N _ _ _ => ∃ u, o.1.2.2.2 L h = some u ∧ u.category = 1 ∧ ∃ v0, g.1.2.2.2 h u = some v0 ∧ e.1.2.2.2.2 L k h (fun t k2 h2 => ∃ v, p.1.2.2.2 h2 v0 t = some v ∧ ∃ h', q.1.2 h2 u v = some h' ∧ N L k2 h')), by
  intro X C hS pc x bt ct hc hx L k h N B Ct R hs hN hB hCt hR
  obtain ⟨hc, h7⟩ := xand hc
  obtain ⟨hc, h6⟩ := xand hc
  obtain ⟨hc, h5⟩ := xand hc
  obtain ⟨hc, h4⟩ := xand hc
  obtain ⟨hc, h3⟩ := xand hc
  obtain ⟨hc, h2⟩ := xand hc
  obtain ⟨h0, h1⟩ := xand hc
  have h0 := of_decide_eq_true h0
  obtain ⟨u, hu, hcat, v0, hv0, hs⟩ := hs
  have ho := o.2 X C hS pc (pc + o.1.1) h2 xEx.rf L [] k h u hu
  have hg := g.2 X C hS (pc + o.1.1 + 1) L [u] k h u v0 hv0 h4
  refine ho.2 (x_dup C hcat h3 (hg.2 ?_))
  refine e.2 X C hS _ _ h5 xEx.rf L [v0, u] k h _ (by rw [xcat_cons, xcat_cons]; simp [xcat]; omega) hs (fun t k2 h2' ht hr => ?_)
  obtain ⟨v, hv, h', hp, hr⟩ := hr
  refine (p.2 X C hS _ L [u] k2 h2' v0 t v hv h6).2 (q.2 X C hS _ L [] k2 h2' u v h' hp h7 ?_)
  have e9 : pc + (o.1.1 + 1 + g.1.2.1 + e.1.1 + p.1.2.1 + 3) = pc + o.1.1 + 1 + g.1.2.1 + e.1.1 + p.1.2.1 + 3 := by omega
  rw [← e9]
  exact hx _ _ _ _ (hN _ _ _ hr)⟩
/-- an array's place := e -/
def sAst (o : TO S) (r i e : EN S) : SN S := ⟨(r.1.1 + i.1.1 + e.1.1 + 1, fun cc pc _ _ _ => decide (r.1.2.2.1 ≤ 8) && decide (r.1.2.1 + i.1.2.2.1 ≤ 8) && decide (r.1.2.1 + i.1.2.1 + e.1.2.2.1 ≤ 8) && r.1.2.2.2.1 cc pc (pc + r.1.1) && i.1.2.2.2.1 cc (pc + r.1.1) (pc + r.1.1 + i.1.1) && e.1.2.2.2.1 cc (pc + r.1.1 + i.1.1) (pc + r.1.1 + i.1.1 + e.1.1) && ck cc (pc + r.1.1 + i.1.1 + e.1.1) o.1.1 1,
    fun L k h N _ _ _ => r.1.2.2.2.2 L k h (fun u k1 h1 => i.1.2.2.2.2 L k1 h1 (fun j k2 h2 => e.1.2.2.2.2 L k2 h2 (fun v k3 h3 => ∃ h', o.1.2 h3 u j v = some h' ∧ N L k3 h')))), by
  intro X C hS pc x bt ct hc hx L k h N B Ct R hs hN hB hCt hR
  obtain ⟨hc, h6⟩ := xand hc
  obtain ⟨hc, h5⟩ := xand hc
  obtain ⟨hc, h4⟩ := xand hc
  obtain ⟨hc, h3⟩ := xand hc
  obtain ⟨hc, h2⟩ := xand hc
  obtain ⟨h0, h1⟩ := xand hc
  have h0 := of_decide_eq_true h0
  have h1 := of_decide_eq_true h1
  have h2 := of_decide_eq_true h2
  refine r.2 X C hS pc (pc + r.1.1) h3 xEx.rf L [] k h _ (by simp [xcat]; omega) hs (fun u k1 h1' hu hq => ?_)
  refine i.2 X C hS _ _ h4 xEx.rf L [u] k1 h1' _ (by rw [xcat_cons]; simp [xcat]; omega) hq (fun j k2 h2' hj hr => ?_)
  refine e.2 X C hS _ _ h5 xEx.rf L [j, u] k2 h2' _ (by rw [xcat_cons, xcat_cons]; simp [xcat]; omega) hr (fun v k3 h3' hv hr => ?_)
  obtain ⟨h', hp, hr⟩ := hr
  have e9 : pc + (r.1.1 + i.1.1 + e.1.1 + 1) = pc + r.1.1 + i.1.1 + e.1.1 + 1 := by omega
  exact o.2 X C hS _ L [] k3 h3' u j v h' hp h6 (by rw [← e9]; exact hx _ _ _ _ (hN _ _ _ hr))⟩
/-- an array's place op= e -/
def sAstC (o : TO S) (g p : BO S) (r i : PN S) (e : EN S) : SN S := ⟨(r.1.1 + i.1.1 + 1 + g.1.2.1 + e.1.1 + p.1.2.1 + 1, fun cc pc _ _ _ => decide (2 + g.1.2.2.1 + e.1.2.2.1 ≤ 8) && decide (r.1.2.1 ≤ 1) && decide (i.1.2.1 ≤ 1) && r.1.2.2.1 cc pc (pc + r.1.1) && i.1.2.2.1 cc (pc + r.1.1) (pc + r.1.1 + i.1.1) && ck cc (pc + r.1.1 + i.1.1) .dup2 1 && ck cc (pc + r.1.1 + i.1.1 + 1) g.1.1 g.1.2.1 && e.1.2.2.2.1 cc (pc + r.1.1 + i.1.1 + 1 + g.1.2.1) (pc + r.1.1 + i.1.1 + 1 + g.1.2.1 + e.1.1) && ck cc (pc + r.1.1 + i.1.1 + 1 + g.1.2.1 + e.1.1) p.1.1 p.1.2.1 && ck cc (pc + r.1.1 + i.1.1 + 1 + g.1.2.1 + e.1.1 + p.1.2.1) o.1.1 1,
    fun L k h N _ _ _ => ∃ u, r.1.2.2.2 L h = some u ∧ u.category = 1 ∧ ∃ j, i.1.2.2.2 L h = some j ∧ j.category = 1 ∧ ∃ v0, g.1.2.2.2 h u j = some v0 ∧ e.1.2.2.2.2 L k h (fun t k2 h2 => ∃ v, p.1.2.2.2 h2 v0 t = some v ∧ ∃ h', o.1.2 h2 u j v = some h' ∧ N L k2 h')), by
  intro X C hS pc x bt ct hc hx L k h N B Ct R hs hN hB hCt hR
  obtain ⟨hc, h9⟩ := xand hc
  obtain ⟨hc, h8⟩ := xand hc
  obtain ⟨hc, h7⟩ := xand hc
  obtain ⟨hc, h6⟩ := xand hc
  obtain ⟨hc, h5⟩ := xand hc
  obtain ⟨hc, h4⟩ := xand hc
  obtain ⟨hc, h3⟩ := xand hc
  obtain ⟨hc, h2⟩ := xand hc
  obtain ⟨h0, h1⟩ := xand hc
  have h0 := of_decide_eq_true h0
  obtain ⟨u, hu, hcu, j, hj, hcj, v0, hv0, hs⟩ := hs
  have hr := r.2 X C hS pc (pc + r.1.1) h3 xEx.rf L [] k h u hu
  have hi := i.2 X C hS (pc + r.1.1) (pc + r.1.1 + i.1.1) h4 xEx.rf L [u] k h j hj
  have hg := g.2 X C hS (pc + r.1.1 + i.1.1 + 1) L [j, u] k h u j v0 hv0 h6
  refine hr.2 (hi.2 (x_dup2 C hcj hcu h5 (hg.2 ?_)))
  refine e.2 X C hS _ _ h7 xEx.rf L [v0, j, u] k h _ (by rw [xcat_cons, xcat_cons, xcat_cons]; simp [xcat]; omega) hs (fun t k2 h2' ht hr => ?_)
  obtain ⟨v, hv, h', hp, hr⟩ := hr
  refine (p.2 X C hS _ L [j, u] k2 h2' v0 t v hv h8).2 (o.2 X C hS _ L [] k2 h2' u j v h' hp h9 ?_)
  have e9 : pc + (r.1.1 + i.1.1 + 1 + g.1.2.1 + e.1.1 + p.1.2.1 + 1) = pc + r.1.1 + i.1.1 + 1 + g.1.2.1 + e.1.1 + p.1.2.1 + 1 := by omega
  rw [← e9]
  exact hx _ _ _ _ (hN _ _ _ hr)⟩
def sK (c : KN S) : SN S := ⟨(c.1.1, fun cc pc _ _ _ => decide (c.1.2.1 ≤ 8) && c.1.2.2.1 cc pc, fun L k h N _ _ _ => c.1.2.2.2 L k h (fun r k' h' => r = none ∧ N L k' h')), by
  intro X C hS pc x bt ct hc hx L k h N B Ct R hs hN hB hCt hR
  obtain ⟨h0, h1⟩ := xand hc
  refine c.2 X C hS pc h1 L [] k h _ (by have := of_decide_eq_true h0; simp [xcat]; omega) hs (fun r k' h' hq => ?_)
  obtain ⟨rfl, hq⟩ := hq
  exact hx _ _ _ _ (hN _ _ _ hq)⟩
def sKp (c : KN S) : SN S := ⟨(c.1.1 + 1, fun cc pc _ _ _ => decide (c.1.2.1 ≤ 8) && c.1.2.2.1 cc pc && ck cc (pc + c.1.1) .pop 1, fun L k h N _ _ _ => c.1.2.2.2 L k h (fun r k' h' => ∃ v, r = some v ∧ v.category = 1 ∧ N L k' h')), by
  intro X C hS pc x bt ct hc hx L k h N B Ct R hs hN hB hCt hR
  obtain ⟨h01, h2⟩ := xand hc
  obtain ⟨h0, h1⟩ := xand h01
  refine c.2 X C hS pc h1 L [] k h _ (by have := of_decide_eq_true h0; simp [xcat]; omega) hs (fun r k' h' hq => ?_)
  obtain ⟨v, rfl, hv, hq⟩ := hq
  exact x_pop C hv h2 (by rw [Nat.add_assoc]; exact hx _ _ _ _ (hN _ _ _ hq))⟩
def sObj (i : Nat) (hok : xco S i = true) : SN S := ⟨(4, fun cc pc _ _ _ => ck cc pc (.aload_n 0) 1 && ck cc (pc + 1) (.invokespecial i) 3, fun L k h N _ _ _ => ∃ a, L[0]? = some (.ref a) ∧ N L k h), by
  intro X C hS pc x bt ct hc hx L k h N B Ct R hs hN hB hCt hR
  obtain ⟨h1, h2⟩ := xand hc
  obtain ⟨a, ha, hs⟩ := hs
  subst hS
  exact x_aload_n (i := 0) C rfl ha h1 (x_obj C hok (by simp [xcat]) h2 (hx _ _ _ _ (hN _ _ _ hs)))⟩
theorem x_ret {X : xCtx} (C : xOK X) {r : Option Value} {h : AH} {L : List Value} {k : Nat × Nat} {pc : Nat} (h1 : xRt X r h) (h2 : xrv (xst X).2.2.1 r) (d : ck (xcc X) pc (xrI r) 1 = true) : xAt X pc L r.toList k h := by
  obtain ⟨w, ⟨cc, own, yn, ret, mc, ms, rf, rl⟩, Rt, p, l, e, R, s, m, args, below, meth, c, Q⟩ := X
  intro k1 k2 hn H locs ls hR hl hL
  exact C.2.2.2.2.2.2.2.2 r h H locs ls k pc h1 h2 (ckd d) k1 k2 hR hl
def sRv : SN S := ⟨(1, fun cc pc _ _ _ => ck cc pc .return_ 1, fun _ _ h _ _ _ R => R none h), by
  intro X C hS pc x bt ct hc hx L k h N B Ct R hs hN hB hCt hR
  obtain ⟨h1, h2⟩ := hR _ _ hs
  subst hS
  exact x_ret (r := none) C h1 h2 hc⟩
def sR (i : Instr) (e : EN S) : SN S := ⟨(e.1.1 + 1, fun cc pc _ _ _ => decide (e.1.2.2.1 ≤ 8) && e.1.2.2.2.1 cc pc (pc + e.1.1) && ck cc (pc + e.1.1) i 1, fun L k h _ _ _ R => e.1.2.2.2.2 L k h (fun v _ h' => xrI (some v) = i ∧ R (some v) h')), by
  intro X C hS pc x bt ct hc hx L k h N B Ct R hs hN hB hCt hR
  obtain ⟨h01, h2⟩ := xand hc
  obtain ⟨h0, h1⟩ := xand h01
  refine e.2 X C hS pc (pc + e.1.1) h1 xEx.rf L [] k h _ (by have := of_decide_eq_true h0; simp [xcat]; omega) hs (fun v k' h' hv hq => ?_)
  obtain ⟨rfl, hq⟩ := hq
  obtain ⟨h3, h4⟩ := hR _ _ hq
  subst hS
  exact x_ret (r := some v) C h3 h4 h2⟩
/-! a switch: bodies one behind another -/
def xbl (bs : List (SN S)) : Nat := (bs.map (fun b => b.1.1)).sum
def xbc (cc : ByteArray) (x ct : Nat) : Nat → List (SN S) → Bool
  | _, [] => true
  | pc, b :: bs => b.1.2.1 cc pc (if bs.isEmpty = true then x else pc + b.1.1) x ct && xbc cc x ct (pc + b.1.1) bs
def xbs : List (SN S) → List Value → Nat × Nat → AH → xPo → xPo → (Option Value → AH → Prop) → Prop
  | [] => fun L k h N _ _ => N L k h
  | b :: bs => fun L k h N Ct R => b.1.2.2 L k h (fun L' k' h' => xbs bs L' k' h' N Ct R) N Ct R
theorem xbs_go {X : xCtx} (C : xOK X) (hS : xst X = S) {x ct : Nat} : ∀ (bs : List (SN S)) (pc : Nat), xbc (xcc X) x ct pc bs = true → xEx X x (pc + xbl bs) → ∀ (j : Nat), j ≤ bs.length → ∀ L k h N Ct R, xbs (bs.drop j) L k h N Ct R → (∀ L' k' h', N L' k' h' → xAt X x L' [] k' h') → (∀ L' k' h', Ct L' k' h' → xAt X ct L' [] k' h') → (∀ r h', R r h' → xRt X r h' ∧ xrv S.2.2.1 r) → xAt X (pc + xbl (bs.take j)) L [] k h
  | [], pc, hc, hx, j, hj, L, k, h, N, Ct, R, hs, hN, hCt, hR => by
    simp only [List.drop_nil, xbs] at hs
    simp only [List.take_nil]
    exact hx _ _ _ _ (hN _ _ _ hs)
  | b :: bs, pc, hc, hx, 0, hj, L, k, h, N, Ct, R, hs, hN, hCt, hR => by
    obtain ⟨h1, h2⟩ := xand hc
    have hl : pc + xbl (b :: bs) = pc + b.1.1 + xbl bs := by simp [xbl]; omega
    rw [hl] at hx
    show xAt X pc L [] k h
    cases bs with
    | nil =>
      exact b.2 X C hS pc x x ct h1 (by simpa [xbl] using hx) L k h _ N Ct R hs hN hN hCt hR
    | cons b2 bs2 =>
      exact b.2 X C hS pc (pc + b.1.1) x ct h1 xEx.rf L k h _ N Ct R hs (fun L' k' h' hq => by simpa [xbl] using xbs_go C hS (b2 :: bs2) (pc + b.1.1) h2 hx 0 (Nat.zero_le _) L' k' h' N Ct R hq hN hCt hR) hN hCt hR
  | b :: bs, pc, hc, hx, j + 1, hj, L, k, h, N, Ct, R, hs, hN, hCt, hR => by
    obtain ⟨h1, h2⟩ := xand hc
    have hl : pc + xbl (b :: bs) = pc + b.1.1 + xbl bs := by simp [xbl]; omega
    rw [hl] at hx
    have h9 := xbs_go C hS bs (pc + b.1.1) h2 hx j (by simpa using hj) L k h N Ct R hs hN hCt hR
    have e9 : pc + xbl ((b :: bs).take (j + 1)) = pc + b.1.1 + xbl (bs.take j) := by simp [xbl]; omega
    rw [e9]
    exact h9
/-- lo, for each number which body (by its place), which one else; pad: the bytes between -/
def xsl (lo : Int) (tab : List Nat) (df : Nat) (a : Int32) : Nat := if a.toInt < lo ∨ lo + tab.length - 1 < a.toInt then df else tab.getD (a.toInt - lo).toNat df
def sSw (e : EN S) (pad : Nat) (lo : Int) (tab : List Nat) (df : Nat) (bs : List (SN S)) : SN S := ⟨(e.1.1 + (13 + pad + 4 * tab.length) + xbl bs, fun cc pc x _ ct => decide (e.1.2.2.1 ≤ 8) && decide (df ≤ bs.length) && tab.all (fun j => decide (j ≤ bs.length)) && e.1.2.2.2.1 cc pc (pc + e.1.1) && ck cc (pc + e.1.1) (.tableswitch (((pc + e.1.1 + (13 + pad + 4 * tab.length) + xbl (bs.take df) : Nat) : Int) - ((pc + e.1.1 : Nat) : Int)) lo (lo + tab.length - 1) ((tab.map (fun j => pc + e.1.1 + (13 + pad + 4 * tab.length) + xbl (bs.take j))).map (fun t => ((t : Nat) : Int) - ((pc + e.1.1 : Nat) : Int))).toArray) (13 + pad + 4 * tab.length) && xbc cc x ct (pc + e.1.1 + (13 + pad + 4 * tab.length)) bs,
    fun L k h N _ Ct R => e.1.2.2.2.2 L k h (fun v k' h' => ∃ a, v = .int a ∧ xbs (bs.drop (xsl lo tab df a)) L k' h' N Ct R)), by
  intro X C hS pc x bt ct hc hx L k h N B Ct R hs hN hB hCt hR
  obtain ⟨hc, h5⟩ := xand hc
  obtain ⟨hc, h4⟩ := xand hc
  obtain ⟨hc, h3⟩ := xand hc
  obtain ⟨hc, h2⟩ := xand hc
  obtain ⟨h0, h1⟩ := xand hc
  have h0 := of_decide_eq_true h0
  have h1 := of_decide_eq_true h1
  refine e.2 X C hS pc (pc + e.1.1) h3 xEx.rf L [] k h _ (by simp [xcat]; omega) hs (fun v k' h' hv hq => ?_)
  obtain ⟨a, rfl, hq⟩ := hq
  have hx2 : xEx X x (pc + e.1.1 + (13 + pad + 4 * tab.length) + xbl bs) := by
    have e9 : pc + e.1.1 + (13 + pad + 4 * tab.length) + xbl bs = pc + (e.1.1 + (13 + pad + 4 * tab.length) + xbl bs) := by omega
    rw [e9]; exact hx
  refine x_tsw C h4 (by simp; omega) (fun ho => ?_) (fun j t hj ha => ?_)
  · have hsl : xsl lo tab df a = df := by simp only [xsl]; rw [if_pos ho]
    rw [hsl] at hq
    exact xbs_go C hS bs _ h5 hx2 df h1 L k' h' N Ct R hq hN hCt hR
  · rw [List.getElem?_map] at hj
    cases hg : tab[j]? with
    | none => rw [hg] at hj; cases hj
    | some q =>
      rw [hg] at hj
      have hjl : j < tab.length := (List.getElem?_eq_some_iff.mp hg).1
      have hsl : xsl lo tab df a = q := by
        simp only [xsl]
        rw [if_neg (by omega), show (a.toInt - lo).toNat = j by omega, List.getD_eq_getElem?_getD, hg]
        rfl
      rw [hsl] at hq
      have hq2 : q ≤ bs.length := of_decide_eq_true (List.all_eq_true.mp h2 q (List.mem_of_getElem? hg))
      have ht : t = pc + e.1.1 + (13 + pad + 4 * tab.length) + xbl (bs.take q) := (Option.some.inj hj).symm
      rw [ht]
      exact xbs_go C hS bs _ h5 hx2 q hq2 L k' h' N Ct R hq hN hCt hR⟩
end XV
/-- a method: what its body does -/
def xM (g : xSig) (b : SN (g.1.cls, (g.1.name, none), g.2.2.2.1, g.2.2.2.2.cells, g.2.2.2.2.slots, g.2.2.2.2.frames, g.2.2.2.2.locals)) : xMS := fun vs h Rt => (xent vs).length ≤ g.2.2.1 ∧ b.1.2.2 (xen vs g.2.2.1) (0, 0) h (fun _ _ _ => False) (fun _ _ _ => False) (fun _ _ _ => False) (fun r h' => Rt r h' ∧ xrv g.2.2.2.1 r)
theorem xM_meets (g : xSig) (b : SN (g.1.cls, (g.1.name, none), g.2.2.2.1, g.2.2.2.2.cells, g.2.2.2.2.slots, g.2.2.2.2.frames, g.2.2.2.2.locals)) (hpl : plainFor g.1 = true) (hcd : b.1.2.1 g.2.1 0 b.1.1 0 0 = true) : xMeets g (xM g b) := by
  refine x_meets hpl ?_
  intro X C hcc hS vs h hM
  refine ⟨hM.1, b.2 X C hS 0 b.1.1 0 0 (by rw [hcc]; exact hcd) (by rw [Nat.zero_add]; exact xEx.rf) _ _ _ _ _ _ _ hM.2 (fun _ _ _ z => z.elim) (fun _ _ _ z => z.elim) (fun _ _ _ z => z.elim) (fun r h' z => z)⟩
