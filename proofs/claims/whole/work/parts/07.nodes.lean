/-! expressions that carry their code and its proof. PURE ones: no call, no change -/
abbrev xCd : Type := ByteArray → Nat → Nat → Bool
abbrev xPn : Type := Nat × Nat × xCd × (List Value → AH → Option Value)
def xEx (X : xCtx) (x y : Nat) : Prop := ∀ L st k h, xAt X x L st k h → xAt X y L st k h
def xGP (S : xS) (n : xPn) : Prop := ∀ X, xOK X → xst X = S → ∀ pc x, n.2.2.1 (xcc X) pc x = true → xEx X x (pc + n.1) → ∀ L st k h v, n.2.2.2 L h = some v → v.category ≤ n.2.1 ∧ (xAt X x L (v :: st) k h → xAt X pc L st k h)
def PN (S : xS) : Type := {n : xPn // xGP S n}
abbrev xEn : Type := Nat × Nat × Nat × xCd × (List Value → Nat × Nat → AH → (Value → Nat × Nat → AH → Prop) → Prop)
def xGE (S : xS) (n : xEn) : Prop := ∀ X, xOK X → xst X = S → ∀ pc x, n.2.2.2.1 (xcc X) pc x = true → xEx X x (pc + n.1) → ∀ L st k h Q, xcat st + n.2.2.1 ≤ 8 → n.2.2.2.2 L k h Q → (∀ v k' h', v.category ≤ n.2.1 → Q v k' h' → xAt X x L (v :: st) k' h') → xAt X pc L st k h
def EN (S : xS) : Type := {n : xEn // xGE S n}
abbrev xCdc : Type := Bool → ByteArray → Nat → Nat → Nat → Bool
abbrev xCn : Type := Nat × xCdc × (List Value → AH → Option Bool)
def xGC (S : xS) (n : xCn) : Prop := ∀ X, xOK X → xst X = S → ∀ (b : Bool) (pc tgt x : Nat), n.2.1 b (xcc X) pc tgt x = true → xEx X x (pc + n.1) → ∀ L st k h v, n.2.2 L h = some v → (v = b → xAt X tgt L st k h) → (v ≠ b → xAt X x L st k h) → xAt X pc L st k h
def CN (S : xS) : Type := {n : xCn // xGC S n}
abbrev xDn : Type := Nat × Nat × xCdc × (List Value → Nat × Nat → AH → (Bool → Nat × Nat → AH → Prop) → Prop)
def xGD (S : xS) (n : xDn) : Prop := ∀ X, xOK X → xst X = S → ∀ (b : Bool) (pc tgt x : Nat), n.2.2.1 b (xcc X) pc tgt x = true → xEx X x (pc + n.1) → ∀ L st k h Q, xcat st + n.2.1 ≤ 8 → n.2.2.2 L k h Q → (∀ v k' h', Q v k' h' → v = b → xAt X tgt L st k' h') → (∀ v k' h', Q v k' h' → v ≠ b → xAt X x L st k' h') → xAt X pc L st k h
def DN (S : xS) : Type := {n : xDn // xGD S n}
theorem xEx.rf {X : xCtx} {x : Nat} : xEx X x x := fun _ _ _ _ h => h
theorem xand {a b : Bool} (h : (a && b) = true) : a = true ∧ b = true := by simpa using h
/-! instructions on one or two values -/
abbrev xUo : Type := Instr × Nat × Nat × (AH → Value → Option Value)
def xGU (S : xS) (o : xUo) : Prop := ∀ X, xOK X → xst X = S → ∀ pc L st k h a b, o.2.2.2 h a = some b → ck (xcc X) pc o.1 o.2.1 = true → b.category ≤ o.2.2.1 ∧ (xAt X (pc + o.2.1) L (b :: st) k h → xAt X pc L (a :: st) k h)
def UO (S : xS) : Type := {o : xUo // xGU S o}
abbrev xBo : Type := Instr × Nat × Nat × (AH → Value → Value → Option Value)
def xGB (S : xS) (o : xBo) : Prop := ∀ X, xOK X → xst X = S → ∀ pc L st k h a b v, o.2.2.2 h a b = some v → ck (xcc X) pc o.1 o.2.1 = true → v.category ≤ o.2.2.1 ∧ (xAt X (pc + o.2.1) L (v :: st) k h → xAt X pc L (b :: a :: st) k h)
def BO (S : xS) : Type := {o : xBo // xGB S o}
section XO
variable {S : xS}
def fII (f : Int32 → Int32 → Int32) (_ : AH) (a b : Value) : Option Value := match a, b with
  | .int x, .int y => some (.int (f x y))
  | _, _ => none
def fIIz (f : Int32 → Int32 → Int32) (_ : AH) (a b : Value) : Option Value := match a, b with
  | .int x, .int y => if y = 0 then none else some (.int (f x y))
  | _, _ => none
def fLL (f : Int64 → Int64 → Int64) (_ : AH) (a b : Value) : Option Value := match a, b with
  | .long x, .long y => some (.long (f x y))
  | _, _ => none
def fLLz (f : Int64 → Int64 → Int64) (_ : AH) (a b : Value) : Option Value := match a, b with
  | .long x, .long y => if y = 0 then none else some (.long (f x y))
  | _, _ => none
def fLI (f : Int64 → Int32 → Int64) (_ : AH) (a b : Value) : Option Value := match a, b with
  | .long x, .int y => some (.long (f x y))
  | _, _ => none
theorem gII {f : Int32 → Int32 → Int32} {i : Instr} (r : ∀ {X : xCtx} {pc : Nat} {L st : List Value} {k : Nat × Nat} {h : AH}, xOK X → ∀ {a b : Int32}, ck (xcc X) pc i 1 = true → xAt X (pc + 1) L (.int (f a b) :: st) k h → xAt X pc L (.int b :: .int a :: st) k h) : xGB S (i, 1, 1, fII f) := by
  intro X C _ pc L st k h a b v hv d
  cases a <;> cases b <;> simp [fII] at hv
  subst hv
  exact ⟨Nat.le_refl _, r C d⟩
theorem gIIz {f : Int32 → Int32 → Int32} {i : Instr} (r : ∀ {X : xCtx} {pc : Nat} {L st : List Value} {k : Nat × Nat} {h : AH}, xOK X → ∀ {a b : Int32}, ¬ b = 0 → ck (xcc X) pc i 1 = true → xAt X (pc + 1) L (.int (f a b) :: st) k h → xAt X pc L (.int b :: .int a :: st) k h) : xGB S (i, 1, 1, fIIz f) := by
  intro X C _ pc L st k h a b v hv d
  cases a <;> cases b <;> simp [fIIz] at hv
  obtain ⟨h0, hv⟩ := hv
  subst hv
  exact ⟨Nat.le_refl _, r C h0 d⟩
theorem gLL {f : Int64 → Int64 → Int64} {i : Instr} (r : ∀ {X : xCtx} {pc : Nat} {L st : List Value} {k : Nat × Nat} {h : AH}, xOK X → ∀ {a b : Int64}, ck (xcc X) pc i 1 = true → xAt X (pc + 1) L (.long (f a b) :: st) k h → xAt X pc L (.long b :: .long a :: st) k h) : xGB S (i, 1, 2, fLL f) := by
  intro X C _ pc L st k h a b v hv d
  cases a <;> cases b <;> simp [fLL] at hv
  subst hv
  exact ⟨Nat.le_refl _, r C d⟩
theorem gLLz {f : Int64 → Int64 → Int64} {i : Instr} (r : ∀ {X : xCtx} {pc : Nat} {L st : List Value} {k : Nat × Nat} {h : AH}, xOK X → ∀ {a b : Int64}, ¬ b = 0 → ck (xcc X) pc i 1 = true → xAt X (pc + 1) L (.long (f a b) :: st) k h → xAt X pc L (.long b :: .long a :: st) k h) : xGB S (i, 1, 2, fLLz f) := by
  intro X C _ pc L st k h a b v hv d
  cases a <;> cases b <;> simp [fLLz] at hv
  obtain ⟨h0, hv⟩ := hv
  subst hv
  exact ⟨Nat.le_refl _, r C h0 d⟩
theorem gLI {f : Int64 → Int32 → Int64} {i : Instr} (r : ∀ {X : xCtx} {pc : Nat} {L st : List Value} {k : Nat × Nat} {h : AH}, xOK X → ∀ {a : Int64} {b : Int32}, ck (xcc X) pc i 1 = true → xAt X (pc + 1) L (.long (f a b) :: st) k h → xAt X pc L (.int b :: .long a :: st) k h) : xGB S (i, 1, 2, fLI f) := by
  intro X C _ pc L st k h a b v hv d
  cases a <;> cases b <;> simp [fLI] at hv
  subst hv
  exact ⟨Nat.le_refl _, r C d⟩
def oAdd : BO S := ⟨(.iadd, 1, 1, fII (fun a b => a + b)), gII x_iadd⟩
def oSub : BO S := ⟨(.isub, 1, 1, fII (fun a b => a - b)), gII x_isub⟩
def oMul : BO S := ⟨(.imul, 1, 1, fII (fun a b => a * b)), gII x_imul⟩
def oAnd : BO S := ⟨(.iand, 1, 1, fII (fun a b => a &&& b)), gII x_iand⟩
def oOr : BO S := ⟨(.ior, 1, 1, fII (fun a b => a ||| b)), gII x_ior⟩
def oShl : BO S := ⟨(.ishl, 1, 1, fII xshl), gII x_ishl⟩
def oShr : BO S := ⟨(.ishr, 1, 1, fII xshr), gII x_ishr⟩
def oUshr : BO S := ⟨(.iushr, 1, 1, fII xushr), gII x_iushr⟩
def oDiv : BO S := ⟨(.idiv, 1, 1, fIIz (fun a b => a / b)), gIIz x_idiv⟩
def oRem : BO S := ⟨(.irem, 1, 1, fIIz xrem), gIIz x_irem⟩
def oAddL : BO S := ⟨(.ladd, 1, 2, fLL (fun a b => a + b)), gLL x_ladd⟩
def oSubL : BO S := ⟨(.lsub, 1, 2, fLL (fun a b => a - b)), gLL x_lsub⟩
def oMulL : BO S := ⟨(.lmul, 1, 2, fLL (fun a b => a * b)), gLL x_lmul⟩
def oAndL : BO S := ⟨(.land, 1, 2, fLL (fun a b => a &&& b)), gLL x_land⟩
def oRemL : BO S := ⟨(.lrem, 1, 2, fLLz xremL), gLLz x_lrem⟩
def oShlL : BO S := ⟨(.lshl, 1, 2, fLI xshlL), gLI x_lshl⟩
def oShrL : BO S := ⟨(.lshr, 1, 2, fLI xshrL), gLI x_lshr⟩
def fCmpL (_ : AH) (a b : Value) : Option Value := match a, b with
  | .long x, .long y => some (.int (lg_cmp x y))
  | _, _ => none
def oCmpL : BO S := ⟨(.lcmp, 1, 1, fCmpL), by
  intro X C _ pc L st k h a b v hv d
  cases a <;> cases b <;> simp [fCmpL] at hv
  subst hv
  exact ⟨Nat.le_refl _, x_lcmp C d⟩⟩
def fIald (h : AH) (a b : Value) : Option Value := match a, b with
  | .ref q, .int i => match h.2 q with
    | some (.inl (.int, n, .inl f)) => if xinb i n = true then some (.int (f i.toNatClampNeg)) else none
    | _ => none
  | _, _ => none
def fZald (h : AH) (a b : Value) : Option Value := match a, b with
  | .ref q, .int i => match h.2 q with
    | some (.inl (.boolean, n, .inl f)) => if xinb i n = true then some (.int (f i.toNatClampNeg)) else none
    | _ => none
  | _, _ => none
def fLald (h : AH) (a b : Value) : Option Value := match a, b with
  | .ref q, .int i => match h.2 q with
    | some (.inl (.long, n, .inr (.inl f))) => if xinb i n = true then some (.long (f i.toNatClampNeg)) else none
    | _ => none
  | _, _ => none
def fAald (cn : String) (h : AH) (a b : Value) : Option Value := match a, b with
  | .ref q, .int i => match h.2 q with
    | some (.inl (.object c, n, .inr (.inr (.inr (.inr f))))) => if c = cn ∧ xinb i n = true then some (xrfv (f i.toNatClampNeg)) else none
    | _ => none
  | _, _ => none
def oIald : BO S := ⟨(.iaload, 1, 1, fIald), by
  intro X C _ pc L st k h a b v hv d
  simp only [fIald] at hv
  split at hv
  · split at hv
    · split at hv
      · cases hv
        next hq hi => exact ⟨Nat.le_refl _, x_iald C hq hi d⟩
      · cases hv
    · cases hv
  · cases hv⟩
def oZald : BO S := ⟨(.baload, 1, 1, fZald), by
  intro X C _ pc L st k h a b v hv d
  simp only [fZald] at hv
  split at hv
  · split at hv
    · split at hv
      · cases hv
        next hq hi => exact ⟨Nat.le_refl _, x_zald C hq hi d⟩
      · cases hv
    · cases hv
  · cases hv⟩
def oLald : BO S := ⟨(.laload, 1, 2, fLald), by
  intro X C _ pc L st k h a b v hv d
  simp only [fLald] at hv
  split at hv
  · split at hv
    · split at hv
      · cases hv
        next hq hi => exact ⟨Nat.le_refl _, x_lald C hq hi d⟩
      · cases hv
    · cases hv
  · cases hv⟩
def oAald (t0 : Nat) (cn : String) (ht : xty[t0]? = some (.object cn)) : BO S := ⟨(.aaload, 1, 1, fAald cn), by
  intro X C _ pc L st k h a b v hv d
  simp only [fAald] at hv
  split at hv
  · split at hv
    · split at hv
      · cases hv
        next hq hi =>
          obtain ⟨rfl, hi⟩ := hi
          exact ⟨by simp only [xrfv]; split <;> exact Nat.le_refl _, x_aald C ht hq hi d⟩
      · cases hv
    · cases hv
  · cases hv⟩
def fI2l (_ : AH) (a : Value) : Option Value := match a with
  | .int x => some (.long x.toInt64)
  | _ => none
def fL2i (_ : AH) (a : Value) : Option Value := match a with
  | .long x => some (.int x.toInt32)
  | _ => none
def fNeg (_ : AH) (a : Value) : Option Value := match a with
  | .int x => some (.int (-x))
  | _ => none
def fNegL (_ : AH) (a : Value) : Option Value := match a with
  | .long x => some (.long (-x))
  | _ => none
def oI2l : UO S := ⟨(.i2l, 1, 2, fI2l), by
  intro X C _ pc L st k h a b hv d
  cases a <;> simp [fI2l] at hv
  subst hv
  exact ⟨Nat.le_refl _, x_i2l C d⟩⟩
def oL2i : UO S := ⟨(.l2i, 1, 1, fL2i), by
  intro X C _ pc L st k h a b hv d
  cases a <;> simp [fL2i] at hv
  subst hv
  exact ⟨Nat.le_refl _, x_l2i C d⟩⟩
def oNeg : UO S := ⟨(.ineg, 1, 1, fNeg), by
  intro X C _ pc L st k h a b hv d
  cases a <;> simp [fNeg] at hv
  subst hv
  exact ⟨Nat.le_refl _, x_ineg C d⟩⟩
def oNegL : UO S := ⟨(.lneg, 1, 2, fNegL), by
  intro X C _ pc L st k h a b hv d
  cases a <;> simp [fNegL] at hv
  subst hv
  exact ⟨Nat.le_refl _, x_lneg C d⟩⟩
def fGet (ci kx : Nat) (h : AH) (a : Value) : Option Value := match a with
  | .ref q => match h.2 q with
    | some (.inr (c, fs)) => if c = ci then fs[kx]? else none
    | _ => none
  | _ => none
/-- a field; its category is said -/
def fGetC (ci kx cat : Nat) (h : AH) (a : Value) : Option Value := match fGet ci kx h a with
  | some v => if v.category ≤ cat then some v else none
  | none => none
def oGet (i ci kx cat : Nat) (hf : xfl S.1 i ci kx = true) : UO S := ⟨(.getfield i, 3, cat, fGetC ci kx cat), by
  intro X C hS pc L st k h a b hv d
  simp only [fGetC] at hv
  split at hv
  · next v hv2 =>
    split at hv
    · next hc =>
      cases hv
      refine ⟨hc, fun kk => ?_⟩
      simp only [fGet] at hv2
      split at hv2
      · split at hv2
        · split at hv2
          · next hq hci => subst hci; exact x_get C (by subst hS; exact hf) hq hv2 d kk
          · cases hv2
        · cases hv2
      · cases hv2
    · cases hv
  · cases hv⟩
def fAlen (ty : FieldType) (h : AH) (a : Value) : Option Value := match a with
  | .ref q => match h.2 q with
    | some (.inl (t, x)) => if t = ty then some (.int (Int32.ofNat x.1)) else none
    | _ => none
  | _ => none
def oAlen (t0 : Nat) (ty : FieldType) (ht : xty[t0]? = some ty) : UO S := ⟨(.arraylength, 1, 1, fAlen ty), by
  intro X C _ pc L st k h a b hv d
  simp only [fAlen] at hv
  split at hv
  · split at hv
    · split at hv
      · next hq hti => cases hv; subst hti; exact ⟨Nat.le_refl _, x_alen C ht hq d⟩
      · cases hv
    · cases hv
  · cases hv⟩
end XO
