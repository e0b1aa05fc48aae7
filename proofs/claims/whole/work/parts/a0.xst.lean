/-! the class's state: ints by address and place (fields by slot), longs, references; c = how many cuts, how long their rows of ints -/
abbrev XS : Type := (Nat → Nat → Int32) × (Nat → Nat → Int64) × (Nat → Nat → Option Nat)
abbrev XC : Type := Nat × (Nat → Nat)
def shTb : List (Nat × Nat) := [(11, 0), (5, 0), (12, 9), (12, 3), (12, 18), (12, 6), (14, 8), (15, 2), (3, 0), (15, 10), (12, 10), (5, 0), (12, 9), (12, 3), (12, 18), (12, 6), (14, 8), (5, 0), (12, 9), (12, 3), (12, 18), (12, 6), (14, 8), (5, 0), (12, 9), (12, 3), (12, 18), (12, 6), (14, 8), (5, 0), (12, 9), (12, 3), (12, 18), (12, 6), (14, 8), (5, 0), (12, 9), (12, 3), (12, 18), (12, 6), (14, 8), (5, 0), (12, 9), (12, 3), (12, 18), (12, 6), (14, 8), (5, 0), (12, 9), (12, 3), (12, 18), (12, 6), (14, 8), (5, 0), (12, 9), (12, 3), (12, 18), (12, 6), (14, 8), (5, 0), (12, 9), (12, 3), (12, 18), (12, 6), (14, 8), (5, 0), (12, 9), (12, 3), (12, 18), (12, 6), (14, 8), (8, 0), (12, 400), (2, 0), (12, 9), (12, 9), (12, 3), (12, 72), (12, 576), (10, 0), (6, 0), (12, 24), (13, 24), (13, 24), (12, 6), (12, 3), (12, 3), (6, 0), (12, 24), (13, 24), (13, 24), (4, 0), (13, 24), (13, 576), (7, 0), (16, 25), (12, 72), (9, 0), (12, 24), (9, 0), (12, 24), (9, 0), (12, 24), (9, 0), (12, 24), (9, 0), (12, 24), (9, 0), (12, 24), (9, 0), (12, 24), (9, 0), (12, 24), (9, 0), (12, 24), (9, 0), (12, 24), (9, 0), (12, 24), (9, 0), (12, 24), (9, 0), (12, 24), (9, 0), (12, 24), (9, 0), (12, 24), (9, 0), (12, 24), (9, 0), (12, 24), (9, 0), (12, 24), (9, 0), (12, 24), (9, 0), (12, 24), (9, 0), (12, 24), (9, 0), (12, 24), (9, 0), (12, 24), (9, 0), (12, 24), (9, 0), (12, 24), (12, 24), (12, 6), (12, 7), (5, 0), (12, 9), (12, 3), (12, 18), (12, 6), (14, 8), (5, 0), (12, 9), (12, 3), (12, 18), (12, 6), (14, 8)]
def shp (a : Nat) : Nat × Nat := if a < 162 then shTb.getD a (0, 0) else if a % 4 = 0 then (1, 0) else if a % 4 = 1 then (9, 0) else if a % 4 = 2 then (12, 24) else (17, 0)
def xfCornerCuts (τ : XS) (a : Nat) : List Value := [.ref 1, .ref 7, .ref 8, .ref 71, .ref 73, .ref 79, .ref 87, .ref 91, .ref 94, .ref 147, .ref 148, .ref 149, .int (τ.1 a 12), .int (τ.1 a 13), .int (τ.1 a 14), .int (τ.1 a 15), .int (τ.1 a 16)]
def xfModel (τ : XS) (a : Nat) : List Value := [.int (τ.1 a 0), .int (τ.1 a 1), .int (τ.1 a 2), .ref (a + 1), .ref (a + 2), .ref (a + 3), .ref (a + 4), .ref (a + 5)]
def xfHistory (τ : XS) (a : Nat) : List Value := [.ref (a + 1), .ref (a + 2), .int (τ.1 a 2), .int (τ.1 a 3)]
def xfCut (τ : XS) (a : Nat) : List Value := [.int (τ.1 a 0), .ref (a + 3), .ref (a + 1)]
def xfValues (τ : XS) (a : Nat) : List Value := [.ref (a + 1), .int (τ.1 a 1), .int (τ.1 a 2), .int (τ.1 a 3), .int (τ.1 a 4), .int (τ.1 a 5), .int (τ.1 a 6), .int (τ.1 a 7)]
def xfGroup (τ : XS) (a : Nat) : List Value := [.int (τ.1 a 0), .int (τ.1 a 1), .int (τ.1 a 2), .ref (a + 1), .ref (a + 2), .ref (a + 3), .ref (a + 4), .ref (a + 5)]
def xfSpread (τ : XS) (a : Nat) : List Value := [.int (τ.1 a 0), .ref (a + 1), .ref (a + 2), .ref (a + 3)]
def xfWalks (τ : XS) (a : Nat) : List Value := [.ref (a + 1), .ref (a + 5), .ref (a + 6), .ref (a + 7), .int (τ.1 a 4), .int (τ.1 a 5), .long (τ.2.1 a 6)]
def xfJudge (τ : XS) (a : Nat) : List Value := [.ref (a + 1), .ref (a + 2), .int (τ.1 a 2)]
def xfTable (τ : XS) (a : Nat) : List Value := [.int (τ.1 a 0), .ref (a + 1), .int (τ.1 a 2), .ref (a + 2)]
def xfTape (τ : XS) (a : Nat) : List Value := [.ref (a + 1), .int (τ.1 a 1), .int (τ.1 a 2), .int (τ.1 a 3)]
def xcl (N : Nat → Nat) (τ : XS) (a : Nat) : Option AC := match shp a with
  | (1, _) => some (.inr (0, xfCut τ a))
  | (2, _) => some (.inr (1, xfGroup τ a))
  | (3, _) => some (.inr (2, xfHistory τ a))
  | (4, _) => some (.inr (3, xfJudge τ a))
  | (5, _) => some (.inr (4, xfModel τ a))
  | (6, _) => some (.inr (5, xfSpread τ a))
  | (7, _) => some (.inr (6, xfTable τ a))
  | (8, _) => some (.inr (7, xfTape τ a))
  | (9, _) => some (.inr (8, xfValues τ a))
  | (10, _) => some (.inr (9, xfWalks τ a))
  | (11, _) => some (.inr (10, xfCornerCuts τ a))
  | (12, n) => some (.inl (.int, n, .inl (τ.1 a)))
  | (13, n) => some (.inl (.long, n, .inr (.inl (τ.2.1 a))))
  | (14, n) => some (.inl (.object "CornerCuts$Cut", n, .inr (.inr (.inr (.inr (τ.2.2 a))))))
  | (15, n) => some (.inl (.object "CornerCuts$Model", n, .inr (.inr (.inr (.inr (τ.2.2 a))))))
  | (16, n) => some (.inl (.object "CornerCuts$Values", n, .inr (.inr (.inr (.inr (τ.2.2 a))))))
  | (17, _) => some (.inl (.int, N a, .inl (τ.1 a)))
  | _ => none
def mkX (h : AH) (c : XC) (τ : XS) : AH := (192 + 4 * c.1, fun a => if a < 162 then xcl c.2 τ a else if a < 192 then h.2 a else if a < 192 + 4 * c.1 then xcl c.2 τ a else none)
def uA (τ : XS) (a : Nat) (f : Nat → Int32) : XS := (xupd τ.1 a f, τ.2)
def uL (τ : XS) (a : Nat) (f : Nat → Int64) : XS := (τ.1, xupd τ.2.1 a f, τ.2.2)
def uP (τ : XS) (a : Nat) (f : Nat → Option Nat) : XS := (τ.1, τ.2.1, xupd τ.2.2 a f)
/-- an address that is there -/
def xva (n a : Nat) : Bool := Nat.blt a 162 || (Nat.ble 192 a && Nat.blt a (192 + 4 * n))
theorem xva_or {n a : Nat} (h : xva n a = true) : a < 162 ∨ (192 ≤ a ∧ a < 192 + 4 * n) := by
  simp only [xva, Bool.or_eq_true, Bool.and_eq_true, Nat.blt_eq, Nat.ble_eq] at h
  exact h
theorem mkX_2 (h : AH) (c : XC) (τ : XS) {a : Nat} (ha : xva c.1 a = true) : (mkX h c τ).2 a = xcl c.2 τ a := by
  show (if a < 162 then xcl c.2 τ a else if a < 192 then h.2 a else if a < 192 + 4 * c.1 then xcl c.2 τ a else none) = _
  rcases xva_or ha with z | z
  · rw [if_pos z]
  · rw [if_neg (by omega), if_neg (by omega), if_pos z.2]
theorem mkX_put {h : AH} {c : XC} {τ τ' : XS} {a : Nat} {x : AC} (ha : xva c.1 a = true) (h1 : xcl c.2 τ' a = some x) (h2 : ∀ b, b ≠ a → xcl c.2 τ' b = xcl c.2 τ b) : xput (mkX h c τ) a x = mkX h c τ' := by
  refine Prod.ext rfl (funext fun b => ?_)
  show (if b = a then some x else if b < 162 then xcl c.2 τ b else if b < 192 then h.2 b else if b < 192 + 4 * c.1 then xcl c.2 τ b else none) = if b < 162 then xcl c.2 τ' b else if b < 192 then h.2 b else if b < 192 + 4 * c.1 then xcl c.2 τ' b else none
  by_cases e : b = a
  · subst e
    rw [if_pos rfl]
    rcases xva_or ha with z | z
    · rw [if_pos z, h1]
    · rw [if_neg (by omega), if_neg (by omega), if_pos z.2, h1]
  · rw [if_neg e, h2 b e]
theorem xcl_uA (N : Nat → Nat) (τ : XS) (a : Nat) (f : Nat → Int32) {b : Nat} (hb : b ≠ a) : xcl N (uA τ a f) b = xcl N τ b := by
  have e : (uA τ a f).1 b = τ.1 b := xupd_ne hb
  have e2 : (uA τ a f).2 = τ.2 := rfl
  simp only [xcl, xfCornerCuts, xfModel, xfHistory, xfCut, xfValues, xfGroup, xfSpread, xfWalks, xfJudge, xfTable, xfTape, e, e2]
theorem xcl_uL (N : Nat → Nat) (τ : XS) (a : Nat) (f : Nat → Int64) {b : Nat} (hb : b ≠ a) : xcl N (uL τ a f) b = xcl N τ b := by
  have e : (uL τ a f).2.1 b = τ.2.1 b := xupd_ne hb
  have e2 : (uL τ a f).1 = τ.1 := rfl
  have e3 : (uL τ a f).2.2 = τ.2.2 := rfl
  simp only [xcl, xfCornerCuts, xfModel, xfHistory, xfCut, xfValues, xfGroup, xfSpread, xfWalks, xfJudge, xfTable, xfTape, e, e2, e3]
theorem xcl_uP (N : Nat → Nat) (τ : XS) (a : Nat) (f : Nat → Option Nat) {b : Nat} (hb : b ≠ a) : xcl N (uP τ a f) b = xcl N τ b := by
  have e : (uP τ a f).2.2 b = τ.2.2 b := xupd_ne hb
  have e2 : (uP τ a f).1 = τ.1 := rfl
  have e3 : (uP τ a f).2.1 = τ.2.1 := rfl
  simp only [xcl, xfCornerCuts, xfModel, xfHistory, xfCut, xfValues, xfGroup, xfSpread, xfWalks, xfJudge, xfTable, xfTape, e, e2, e3]
theorem xc_CornerCuts {N : Nat → Nat} {τ : XS} {a : Nat} (h : shp a = (11, 0)) : xcl N τ a = some (.inr (10, xfCornerCuts τ a)) := by rw [xcl, h] <;> rfl
theorem xc_Model {N : Nat → Nat} {τ : XS} {a : Nat} (h : shp a = (5, 0)) : xcl N τ a = some (.inr (4, xfModel τ a)) := by rw [xcl, h] <;> rfl
theorem xc_History {N : Nat → Nat} {τ : XS} {a : Nat} (h : shp a = (3, 0)) : xcl N τ a = some (.inr (2, xfHistory τ a)) := by rw [xcl, h] <;> rfl
theorem xc_Cut {N : Nat → Nat} {τ : XS} {a : Nat} (h : shp a = (1, 0)) : xcl N τ a = some (.inr (0, xfCut τ a)) := by rw [xcl, h] <;> rfl
theorem xc_Values {N : Nat → Nat} {τ : XS} {a : Nat} (h : shp a = (9, 0)) : xcl N τ a = some (.inr (8, xfValues τ a)) := by rw [xcl, h] <;> rfl
theorem xc_Group {N : Nat → Nat} {τ : XS} {a : Nat} (h : shp a = (2, 0)) : xcl N τ a = some (.inr (1, xfGroup τ a)) := by rw [xcl, h] <;> rfl
theorem xc_Spread {N : Nat → Nat} {τ : XS} {a : Nat} (h : shp a = (6, 0)) : xcl N τ a = some (.inr (5, xfSpread τ a)) := by rw [xcl, h] <;> rfl
theorem xc_Walks {N : Nat → Nat} {τ : XS} {a : Nat} (h : shp a = (10, 0)) : xcl N τ a = some (.inr (9, xfWalks τ a)) := by rw [xcl, h] <;> rfl
theorem xc_Judge {N : Nat → Nat} {τ : XS} {a : Nat} (h : shp a = (4, 0)) : xcl N τ a = some (.inr (3, xfJudge τ a)) := by rw [xcl, h] <;> rfl
theorem xc_Table {N : Nat → Nat} {τ : XS} {a : Nat} (h : shp a = (7, 0)) : xcl N τ a = some (.inr (6, xfTable τ a)) := by rw [xcl, h] <;> rfl
theorem xc_Tape {N : Nat → Nat} {τ : XS} {a : Nat} (h : shp a = (8, 0)) : xcl N τ a = some (.inr (7, xfTape τ a)) := by rw [xcl, h] <;> rfl
theorem xc_12 {N : Nat → Nat} {τ : XS} {a n : Nat} (h : shp a = (12, n)) : xcl N τ a = some (.inl (.int, n, .inl (τ.1 a))) := by rw [xcl, h] <;> rfl
theorem xc_13 {N : Nat → Nat} {τ : XS} {a n : Nat} (h : shp a = (13, n)) : xcl N τ a = some (.inl (.long, n, .inr (.inl (τ.2.1 a)))) := by rw [xcl, h] <;> rfl
theorem xc_14 {N : Nat → Nat} {τ : XS} {a n : Nat} (h : shp a = (14, n)) : xcl N τ a = some (.inl (.object "CornerCuts$Cut", n, .inr (.inr (.inr (.inr (τ.2.2 a)))))) := by rw [xcl, h] <;> rfl
theorem xc_15 {N : Nat → Nat} {τ : XS} {a n : Nat} (h : shp a = (15, n)) : xcl N τ a = some (.inl (.object "CornerCuts$Model", n, .inr (.inr (.inr (.inr (τ.2.2 a)))))) := by rw [xcl, h] <;> rfl
theorem xc_16 {N : Nat → Nat} {τ : XS} {a n : Nat} (h : shp a = (16, n)) : xcl N τ a = some (.inl (.object "CornerCuts$Values", n, .inr (.inr (.inr (.inr (τ.2.2 a)))))) := by rw [xcl, h] <;> rfl
theorem xc_17 {N : Nat → Nat} {τ : XS} {a : Nat} (h : shp a = (17, 0)) : xcl N τ a = some (.inl (.int, N a, .inl (τ.1 a))) := by rw [xcl, h] <;> rfl
section
variable {h : AH} {c : XC} {τ : XS}
theorem ldI {a n i : Nat} (hv : xva c.1 a = true) (hs : shp a = (12, n)) (hn : n < 2147483648) (hi : i < n) : fIald (mkX h c τ) (.ref a) (.int (nI i)) = some (.int (τ.1 a i)) := by
  have e : xinb (nI i) n = true := by rw [xinb_n (by omega)]; exact decide_eq_true hi
  show (match (mkX h c τ).2 a with | some (.inl (.int, n, .inl f)) => if xinb (nI i) n = true then some (Value.int (f (nI i).toNatClampNeg)) else none | _ => none) = _
  rw [mkX_2 h c τ hv, xc_12 hs]
  dsimp only
  rw [if_pos e, nI_clamp (by omega)]
theorem stI {a n i : Nat} (x : Int32) (hv : xva c.1 a = true) (hs : shp a = (12, n)) (hn : n < 2147483648) (hi : i < n) : fIast (mkX h c τ) (.ref a) (.int (nI i)) (.int x) = some (mkX h c (uA τ a (xupd (τ.1 a) i x))) := by
  have e : xinb (nI i) n = true := by rw [xinb_n (by omega)]; exact decide_eq_true hi
  show (match (mkX h c τ).2 a with | some (.inl (.int, n, .inl f)) => if xinb (nI i) n = true then some (xput (mkX h c τ) a (.inl (.int, n, .inl (xupd f (nI i).toNatClampNeg x)))) else none | _ => none) = _
  rw [mkX_2 h c τ hv, xc_12 hs]
  dsimp only
  rw [if_pos e, nI_clamp (by omega)]
  exact congrArg some (mkX_put hv ((xc_12 hs).trans (by rw [show (uA τ a (xupd (τ.1 a) i x)).1 a = xupd (τ.1 a) i x from xupd_eq])) (fun b hb => xcl_uA _ _ _ _ hb))
theorem ldL {a n i : Nat} (hv : xva c.1 a = true) (hs : shp a = (13, n)) (hn : n < 2147483648) (hi : i < n) : fLald (mkX h c τ) (.ref a) (.int (nI i)) = some (.long (τ.2.1 a i)) := by
  have e : xinb (nI i) n = true := by rw [xinb_n (by omega)]; exact decide_eq_true hi
  show (match (mkX h c τ).2 a with | some (.inl (.long, n, .inr (.inl f))) => if xinb (nI i) n = true then some (Value.long (f (nI i).toNatClampNeg)) else none | _ => none) = _
  rw [mkX_2 h c τ hv, xc_13 hs]
  dsimp only
  rw [if_pos e, nI_clamp (by omega)]
theorem stL {a n i : Nat} (x : Int64) (hv : xva c.1 a = true) (hs : shp a = (13, n)) (hn : n < 2147483648) (hi : i < n) : fLast (mkX h c τ) (.ref a) (.int (nI i)) (.long x) = some (mkX h c (uL τ a (xupd (τ.2.1 a) i x))) := by
  have e : xinb (nI i) n = true := by rw [xinb_n (by omega)]; exact decide_eq_true hi
  show (match (mkX h c τ).2 a with | some (.inl (.long, n, .inr (.inl f))) => if xinb (nI i) n = true then some (xput (mkX h c τ) a (.inl (.long, n, .inr (.inl (xupd f (nI i).toNatClampNeg x))))) else none | _ => none) = _
  rw [mkX_2 h c τ hv, xc_13 hs]
  dsimp only
  rw [if_pos e, nI_clamp (by omega)]
  exact congrArg some (mkX_put hv ((xc_13 hs).trans (by rw [show (uL τ a (xupd (τ.2.1 a) i x)).2.1 a = xupd (τ.2.1 a) i x from xupd_eq])) (fun b hb => xcl_uL _ _ _ _ hb))
theorem ldPt {a n i : Nat} {cn : String} {h' : AH} {f : Nat → Option Nat} (e0 : h'.2 a = some (.inl (.object cn, n, .inr (.inr (.inr (.inr f)))))) (hn : n < 2147483648) (hi : i < n) : fAald cn h' (.ref a) (.int (nI i)) = some (xrfv (f i)) := by
  have e : xinb (nI i) n = true := by rw [xinb_n (by omega)]; exact decide_eq_true hi
  show (match h'.2 a with | some (.inl (.object c, n, .inr (.inr (.inr (.inr f))))) => if c = cn ∧ xinb (nI i) n = true then some (xrfv (f (nI i).toNatClampNeg)) else none | _ => none) = _
  rw [e0]
  dsimp only
  rw [if_pos ⟨rfl, e⟩, nI_clamp (by omega)]
theorem stPt {a n i ci : Nat} {cn : String} {h' : AH} {f : Nat → Option Nat} {fs : Nat → List Value} (o : Option Nat) (e0 : h'.2 a = some (.inl (.object cn, n, .inr (.inr (.inr (.inr f)))))) (ho : ∀ q, o = some q → h'.2 q = some (.inr (ci, fs q))) (hn : n < 2147483648) (hi : i < n) : fAast cn ci h' (.ref a) (.int (nI i)) (xrfv o) = some (xput h' a (.inl (.object cn, n, .inr (.inr (.inr (.inr (xupd f i o))))))) := by
  have e : xinb (nI i) n = true := by rw [xinb_n (by omega)]; exact decide_eq_true hi
  cases o with
  | none =>
    show (match h'.2 a with | some (.inl (.object c, n, .inr (.inr (.inr (.inr f))))) => if c = cn ∧ xinb (nI i) n = true then some (xput h' a (.inl (.object c, n, .inr (.inr (.inr (.inr (xupd f (nI i).toNatClampNeg none))))))) else none | _ => none) = _
    rw [e0]
    dsimp only
    rw [if_pos ⟨rfl, e⟩, nI_clamp (by omega)]
  | some q =>
    show (match h'.2 a, h'.2 q with | some (.inl (.object c, n, .inr (.inr (.inr (.inr f))))), some (.inr (d, _)) => if c = cn ∧ d = ci ∧ xinb (nI i) n = true then some (xput h' a (.inl (.object c, n, .inr (.inr (.inr (.inr (xupd f (nI i).toNatClampNeg (some q)))))))) else none | _, _ => none) = _
    rw [e0, ho q rfl]
    dsimp only
    rw [if_pos ⟨rfl, rfl, e⟩, nI_clamp (by omega)]
theorem stP {a n i : Nat} (o : Option Nat) (hv : xva c.1 a = true) (hs : shp a = (14, n)) : xput (mkX h c τ) a (.inl (.object "CornerCuts$Cut", n, .inr (.inr (.inr (.inr (xupd (τ.2.2 a) i o)))))) = mkX h c (uP τ a (xupd (τ.2.2 a) i o)) :=
  mkX_put hv ((xc_14 hs).trans (by rw [show (uP τ a (xupd (τ.2.2 a) i o)).2.2 a = xupd (τ.2.2 a) i o from xupd_eq])) (fun b hb => xcl_uP _ _ _ _ hb)
theorem stV {a n i : Nat} (o : Option Nat) (hv : xva c.1 a = true) (hs : shp a = (16, n)) : xput (mkX h c τ) a (.inl (.object "CornerCuts$Values", n, .inr (.inr (.inr (.inr (xupd (τ.2.2 a) i o)))))) = mkX h c (uP τ a (xupd (τ.2.2 a) i o)) :=
  mkX_put hv ((xc_16 hs).trans (by rw [show (uP τ a (xupd (τ.2.2 a) i o)).2.2 a = xupd (τ.2.2 a) i o from xupd_eq])) (fun b hb => xcl_uP _ _ _ _ hb)
theorem gt_of {ci k cat a : Nat} {fs : List Value} {h' : AH} {v : Value} (e : h'.2 a = some (.inr (ci, fs))) (hk : fs[k]? = some v) (hc : v.category ≤ cat) : fGetC ci k cat h' (.ref a) = some v := by
  have e1 : fGet ci k h' (.ref a) = some v := by
    show (match h'.2 a with | some (.inr (c, fs)) => if c = ci then fs[k]? else none | _ => none) = _
    rw [e]
    dsimp only
    rw [if_pos rfl, hk]
  show (match fGet ci k h' (.ref a) with | some v => if v.category ≤ cat then some v else none | none => none) = _
  rw [e1]
  dsimp only
  rw [if_pos hc]
theorem pt_of {ci k a : Nat} {ty : FieldType} {fs : List Value} {v : Value} {τ' : XS} (ha : xva c.1 a = true) (e : xcl c.2 τ a = some (.inr (ci, fs))) (hk : k < fs.length) (hf : xfit ty v = true) (e1 : xcl c.2 τ' a = some (.inr (ci, fs.set k v))) (e2 : ∀ b, b ≠ a → xcl c.2 τ' b = xcl c.2 τ b) : fPut ci k ty (mkX h c τ) (.ref a) v = some (mkX h c τ') := by
  show (match (mkX h c τ).2 a with | some (.inr (c', fs)) => if c' = ci ∧ k < fs.length ∧ xfit ty v = true then some (xput (mkX h c τ) a (.inr (ci, fs.set k v))) else none | _ => none) = _
  rw [mkX_2 h c τ ha, e]
  dsimp only
  rw [if_pos ⟨rfl, hk, hf⟩]
  exact congrArg some (mkX_put ha e1 e2)
theorem al_of {a : Nat} {ty : FieldType} {x : vp_A} {h' : AH} (e : h'.2 a = some (.inl (ty, x))) : fAlen ty h' (.ref a) = some (.int (nI x.1)) := by
  show (match h'.2 a with | some (.inl (t, x)) => if t = ty then some (Value.int (Int32.ofNat x.1)) else none | _ => none) = _
  rw [e]
  dsimp only
  rw [if_pos rfl]; rfl
end
def isM (m : Nat) : Bool := Nat.beq m 1 || (Nat.ble 11 m && Nat.blt m 71 && Nat.beq (m % 6) 5) || Nat.beq m 150 || Nat.beq m 156
def isS (s : Nat) : Bool := Nat.beq s 80 || Nat.beq s 87
def isV (n v : Nat) : Bool := (Nat.ble 97 v && Nat.blt v 147 && Nat.beq (v % 2) 1) || (Nat.ble 192 v && Nat.blt v (192 + 4 * n) && Nat.beq (v % 4) 1)
def isQ (n q : Nat) : Bool := Nat.ble 192 q && Nat.blt q (192 + 4 * n) && Nat.beq (q % 4) 0
theorem isM_or {m : Nat} (h : isM m = true) : m = 1 ∨ (11 ≤ m ∧ m < 71 ∧ m % 6 = 5) ∨ m = 150 ∨ m = 156 := by
  simp only [isM, Bool.or_eq_true, Bool.and_eq_true, Nat.blt_eq, Nat.ble_eq, Nat.beq_eq] at h
  omega
theorem isS_or {s : Nat} (h : isS s = true) : s = 80 ∨ s = 87 := by
  simp only [isS, Bool.or_eq_true, Nat.beq_eq] at h
  exact h
theorem isV_or {n v : Nat} (h : isV n v = true) : (97 ≤ v ∧ v < 147 ∧ v % 2 = 1) ∨ (192 ≤ v ∧ v < 192 + 4 * n ∧ v % 4 = 1) := by
  simp only [isV, Bool.or_eq_true, Bool.and_eq_true, Nat.blt_eq, Nat.ble_eq, Nat.beq_eq] at h
  omega
theorem isQ_or {n q : Nat} (h : isQ n q = true) : 192 ≤ q ∧ q < 192 + 4 * n ∧ q % 4 = 0 := by
  simp only [isQ, Bool.and_eq_true, Nat.blt_eq, Nat.ble_eq, Nat.beq_eq] at h
  omega
theorem xva_lt {n a : Nat} (h : a < 162) : xva n a = true := by
  simp only [xva, Bool.or_eq_true, Nat.blt_eq]; exact Or.inl h
theorem xva_ge {n a : Nat} (h1 : 192 ≤ a) (h2 : a < 192 + 4 * n) : xva n a = true := by
  simp only [xva, Bool.or_eq_true, Bool.and_eq_true, Nat.blt_eq, Nat.ble_eq]; exact Or.inr ⟨h1, h2⟩
theorem isM_b : (List.range 162).all (fun m => !isM m || (decide (shp m = (5, 0)) && decide (shp (m + 1) = (12, 9)) && decide (shp (m + 2) = (12, 3)) && decide (shp (m + 3) = (12, 18)) && decide (shp (m + 4) = (12, 6)) && decide (shp (m + 5) = (14, 8)) && decide (m + 5 < 162))) = true := by decide +kernel
theorem isM_s {m : Nat} (h : isM m = true) : shp m = (5, 0) ∧ shp (m + 1) = (12, 9) ∧ shp (m + 2) = (12, 3) ∧ shp (m + 3) = (12, 18) ∧ shp (m + 4) = (12, 6) ∧ shp (m + 5) = (14, 8) ∧ m + 5 < 162 := by
  have h1 := List.all_eq_true.mp isM_b m (List.mem_range.mpr (by have := isM_or h; omega))
  rw [h] at h1
  simp only [Bool.not_true, Bool.false_or, Bool.and_eq_true, decide_eq_true_eq] at h1
  obtain ⟨⟨⟨⟨⟨⟨a, b⟩, c⟩, d⟩, e⟩, f⟩, g⟩ := h1
  exact ⟨a, b, c, d, e, f, g⟩
theorem isS_s {s : Nat} (h : isS s = true) : shp s = (6, 0) ∧ shp (s + 1) = (12, 24) ∧ shp (s + 2) = (13, 24) ∧ shp (s + 3) = (13, 24) ∧ s + 3 < 162 := by
  rcases isS_or h with rfl | rfl <;> decide
theorem isV_b : (List.range 162).all (fun m => !(Nat.ble 97 m && Nat.blt m 147 && Nat.beq (m % 2) 1) || (decide (shp m = (9, 0)) && decide (shp (m + 1) = (12, 24)) && decide (m + 1 < 162))) = true := by decide +kernel
theorem isV_s {n v : Nat} (h : isV n v = true) : shp v = (9, 0) ∧ shp (v + 1) = (12, 24) ∧ xva n v = true ∧ xva n (v + 1) = true := by
  rcases isV_or h with z | z
  · have h1 := List.all_eq_true.mp isV_b v (List.mem_range.mpr (by omega))
    have e : (Nat.ble 97 v && Nat.blt v 147 && Nat.beq (v % 2) 1) = true := by
      simp only [Bool.and_eq_true, Nat.blt_eq, Nat.ble_eq, Nat.beq_eq]; omega
    rw [e] at h1
    simp only [Bool.not_true, Bool.false_or, Bool.and_eq_true, decide_eq_true_eq] at h1
    exact ⟨h1.1.1, h1.1.2, xva_lt (by omega), xva_lt (by omega)⟩
  · refine ⟨?_, ?_, xva_ge (by omega) (by omega), xva_ge (by omega) (by omega)⟩
    · rw [shp, if_neg (by omega), if_neg (by omega), if_pos (by omega)]
    · rw [shp, if_neg (by omega), if_neg (by omega), if_neg (by omega), if_pos (by omega)]
theorem isQ_s {n q : Nat} (h : isQ n q = true) : shp q = (1, 0) ∧ isV n (q + 1) = true ∧ shp (q + 3) = (17, 0) ∧ xva n q = true ∧ xva n (q + 3) = true := by
  have z := isQ_or h
  refine ⟨?_, ?_, ?_, xva_ge (by omega) (by omega), xva_ge (by omega) (by omega)⟩
  · rw [shp, if_neg (by omega), if_pos (by omega)]
  · simp only [isV, Bool.or_eq_true, Bool.and_eq_true, Nat.blt_eq, Nat.ble_eq, Nat.beq_eq]; omega
  · rw [shp, if_neg (by omega), if_neg (by omega), if_neg (by omega), if_neg (by omega)]
section
variable (h : AH) (c : XC) (τ : XS)
theorem oX_CornerCuts : okv 10 (mkX h c τ) (.ref 0) = True := okv_r 10 0 _ (xfCornerCuts τ 0) ((mkX_2 h c τ (xva_lt (by decide))).trans (xc_CornerCuts (rfl)))
theorem xg10_0 : fGetC 10 0 1 (mkX h c τ) (.ref 0) = some (.ref 1) := gt_of ((mkX_2 h c τ (xva_lt (by decide))).trans (xc_CornerCuts (rfl))) rfl (Nat.le_of_ble_eq_true rfl)
theorem xg10_1 : fGetC 10 1 1 (mkX h c τ) (.ref 0) = some (.ref 7) := gt_of ((mkX_2 h c τ (xva_lt (by decide))).trans (xc_CornerCuts (rfl))) rfl (Nat.le_of_ble_eq_true rfl)
theorem xg10_2 : fGetC 10 2 1 (mkX h c τ) (.ref 0) = some (.ref 8) := gt_of ((mkX_2 h c τ (xva_lt (by decide))).trans (xc_CornerCuts (rfl))) rfl (Nat.le_of_ble_eq_true rfl)
theorem xg10_3 : fGetC 10 3 1 (mkX h c τ) (.ref 0) = some (.ref 71) := gt_of ((mkX_2 h c τ (xva_lt (by decide))).trans (xc_CornerCuts (rfl))) rfl (Nat.le_of_ble_eq_true rfl)
theorem xg10_4 : fGetC 10 4 1 (mkX h c τ) (.ref 0) = some (.ref 73) := gt_of ((mkX_2 h c τ (xva_lt (by decide))).trans (xc_CornerCuts (rfl))) rfl (Nat.le_of_ble_eq_true rfl)
theorem xg10_5 : fGetC 10 5 1 (mkX h c τ) (.ref 0) = some (.ref 79) := gt_of ((mkX_2 h c τ (xva_lt (by decide))).trans (xc_CornerCuts (rfl))) rfl (Nat.le_of_ble_eq_true rfl)
theorem xg10_6 : fGetC 10 6 1 (mkX h c τ) (.ref 0) = some (.ref 87) := gt_of ((mkX_2 h c τ (xva_lt (by decide))).trans (xc_CornerCuts (rfl))) rfl (Nat.le_of_ble_eq_true rfl)
theorem xg10_7 : fGetC 10 7 1 (mkX h c τ) (.ref 0) = some (.ref 91) := gt_of ((mkX_2 h c τ (xva_lt (by decide))).trans (xc_CornerCuts (rfl))) rfl (Nat.le_of_ble_eq_true rfl)
theorem xg10_8 : fGetC 10 8 1 (mkX h c τ) (.ref 0) = some (.ref 94) := gt_of ((mkX_2 h c τ (xva_lt (by decide))).trans (xc_CornerCuts (rfl))) rfl (Nat.le_of_ble_eq_true rfl)
theorem xg10_9 : fGetC 10 9 1 (mkX h c τ) (.ref 0) = some (.ref 147) := gt_of ((mkX_2 h c τ (xva_lt (by decide))).trans (xc_CornerCuts (rfl))) rfl (Nat.le_of_ble_eq_true rfl)
theorem xg10_10 : fGetC 10 10 1 (mkX h c τ) (.ref 0) = some (.ref 148) := gt_of ((mkX_2 h c τ (xva_lt (by decide))).trans (xc_CornerCuts (rfl))) rfl (Nat.le_of_ble_eq_true rfl)
theorem xg10_11 : fGetC 10 11 1 (mkX h c τ) (.ref 0) = some (.ref 149) := gt_of ((mkX_2 h c τ (xva_lt (by decide))).trans (xc_CornerCuts (rfl))) rfl (Nat.le_of_ble_eq_true rfl)
theorem xg10_12 : fGetC 10 12 1 (mkX h c τ) (.ref 0) = some (.int (τ.1 0 12)) := gt_of ((mkX_2 h c τ (xva_lt (by decide))).trans (xc_CornerCuts (rfl))) rfl (Nat.le_of_ble_eq_true rfl)
theorem xp10_12 (x : Int32) : fPut 10 12 .int (mkX h c τ) (.ref 0) (.int x) = some (mkX h c (uA τ 0 (xupd (τ.1 0) 12 x))) := pt_of (xva_lt (by decide)) (xc_CornerCuts (rfl)) (Nat.le_of_ble_eq_true rfl) rfl ((xc_CornerCuts (rfl)).trans (by simp (disch := decide) only [xfCornerCuts, uA, xupd_eq, List.set_cons_succ, List.set_cons_zero, xupd_ne])) (fun b hb => xcl_uA _ _ _ _ hb)
theorem xg10_13 : fGetC 10 13 1 (mkX h c τ) (.ref 0) = some (.int (τ.1 0 13)) := gt_of ((mkX_2 h c τ (xva_lt (by decide))).trans (xc_CornerCuts (rfl))) rfl (Nat.le_of_ble_eq_true rfl)
theorem xp10_13 (x : Int32) : fPut 10 13 .int (mkX h c τ) (.ref 0) (.int x) = some (mkX h c (uA τ 0 (xupd (τ.1 0) 13 x))) := pt_of (xva_lt (by decide)) (xc_CornerCuts (rfl)) (Nat.le_of_ble_eq_true rfl) rfl ((xc_CornerCuts (rfl)).trans (by simp (disch := decide) only [xfCornerCuts, uA, xupd_eq, List.set_cons_succ, List.set_cons_zero, xupd_ne])) (fun b hb => xcl_uA _ _ _ _ hb)
theorem xg10_14 : fGetC 10 14 1 (mkX h c τ) (.ref 0) = some (.int (τ.1 0 14)) := gt_of ((mkX_2 h c τ (xva_lt (by decide))).trans (xc_CornerCuts (rfl))) rfl (Nat.le_of_ble_eq_true rfl)
theorem xp10_14 (x : Int32) (hx : xfit .boolean (.int x) = true) : fPut 10 14 .boolean (mkX h c τ) (.ref 0) (.int x) = some (mkX h c (uA τ 0 (xupd (τ.1 0) 14 x))) := pt_of (xva_lt (by decide)) (xc_CornerCuts (rfl)) (Nat.le_of_ble_eq_true rfl) hx ((xc_CornerCuts (rfl)).trans (by simp (disch := decide) only [xfCornerCuts, uA, xupd_eq, List.set_cons_succ, List.set_cons_zero, xupd_ne])) (fun b hb => xcl_uA _ _ _ _ hb)
theorem xq10_14 (b : Bool) : fPut 10 14 .boolean (mkX h c τ) (.ref 0) (xbv b) = some (mkX h c (uA τ 0 (xupd (τ.1 0) 14 (bI b)))) := by cases b <;> exact xp10_14 h c τ _ rfl
theorem xg10_15 : fGetC 10 15 1 (mkX h c τ) (.ref 0) = some (.int (τ.1 0 15)) := gt_of ((mkX_2 h c τ (xva_lt (by decide))).trans (xc_CornerCuts (rfl))) rfl (Nat.le_of_ble_eq_true rfl)
theorem xp10_15 (x : Int32) (hx : xfit .boolean (.int x) = true) : fPut 10 15 .boolean (mkX h c τ) (.ref 0) (.int x) = some (mkX h c (uA τ 0 (xupd (τ.1 0) 15 x))) := pt_of (xva_lt (by decide)) (xc_CornerCuts (rfl)) (Nat.le_of_ble_eq_true rfl) hx ((xc_CornerCuts (rfl)).trans (by simp (disch := decide) only [xfCornerCuts, uA, xupd_eq, List.set_cons_succ, List.set_cons_zero, xupd_ne])) (fun b hb => xcl_uA _ _ _ _ hb)
theorem xq10_15 (b : Bool) : fPut 10 15 .boolean (mkX h c τ) (.ref 0) (xbv b) = some (mkX h c (uA τ 0 (xupd (τ.1 0) 15 (bI b)))) := by cases b <;> exact xp10_15 h c τ _ rfl
theorem xg10_16 : fGetC 10 16 1 (mkX h c τ) (.ref 0) = some (.int (τ.1 0 16)) := gt_of ((mkX_2 h c τ (xva_lt (by decide))).trans (xc_CornerCuts (rfl))) rfl (Nat.le_of_ble_eq_true rfl)
theorem xp10_16 (x : Int32) (hx : xfit .boolean (.int x) = true) : fPut 10 16 .boolean (mkX h c τ) (.ref 0) (.int x) = some (mkX h c (uA τ 0 (xupd (τ.1 0) 16 x))) := pt_of (xva_lt (by decide)) (xc_CornerCuts (rfl)) (Nat.le_of_ble_eq_true rfl) hx ((xc_CornerCuts (rfl)).trans (by simp (disch := decide) only [xfCornerCuts, uA, xupd_eq, List.set_cons_succ, List.set_cons_zero, xupd_ne])) (fun b hb => xcl_uA _ _ _ _ hb)
theorem xq10_16 (b : Bool) : fPut 10 16 .boolean (mkX h c τ) (.ref 0) (xbv b) = some (mkX h c (uA τ 0 (xupd (τ.1 0) 16 (bI b)))) := by cases b <;> exact xp10_16 h c τ _ rfl
theorem oX_Model {m : Nat} (hm : isM m = true) : okv 4 (mkX h c τ) (.ref m) = True := okv_r 4 m _ (xfModel τ m) ((mkX_2 h c τ (xva_lt (by have := (isM_s hm).2.2.2.2.2.2; omega))).trans (xc_Model ((isM_s hm).1)))
theorem xg4_0 {m : Nat} (hm : isM m = true) : fGetC 4 0 1 (mkX h c τ) (.ref m) = some (.int (τ.1 m 0)) := gt_of ((mkX_2 h c τ (xva_lt (by have := (isM_s hm).2.2.2.2.2.2; omega))).trans (xc_Model ((isM_s hm).1))) rfl (Nat.le_of_ble_eq_true rfl)
theorem xp4_0 {m : Nat} (hm : isM m = true) (x : Int32) : fPut 4 0 .int (mkX h c τ) (.ref m) (.int x) = some (mkX h c (uA τ m (xupd (τ.1 m) 0 x))) := pt_of (xva_lt (by have := (isM_s hm).2.2.2.2.2.2; omega)) (xc_Model ((isM_s hm).1)) (Nat.le_of_ble_eq_true rfl) rfl ((xc_Model ((isM_s hm).1)).trans (by simp (disch := decide) only [xfModel, uA, xupd_eq, List.set_cons_succ, List.set_cons_zero, xupd_ne])) (fun b hb => xcl_uA _ _ _ _ hb)
theorem xg4_1 {m : Nat} (hm : isM m = true) : fGetC 4 1 1 (mkX h c τ) (.ref m) = some (.int (τ.1 m 1)) := gt_of ((mkX_2 h c τ (xva_lt (by have := (isM_s hm).2.2.2.2.2.2; omega))).trans (xc_Model ((isM_s hm).1))) rfl (Nat.le_of_ble_eq_true rfl)
theorem xp4_1 {m : Nat} (hm : isM m = true) (x : Int32) : fPut 4 1 .int (mkX h c τ) (.ref m) (.int x) = some (mkX h c (uA τ m (xupd (τ.1 m) 1 x))) := pt_of (xva_lt (by have := (isM_s hm).2.2.2.2.2.2; omega)) (xc_Model ((isM_s hm).1)) (Nat.le_of_ble_eq_true rfl) rfl ((xc_Model ((isM_s hm).1)).trans (by simp (disch := decide) only [xfModel, uA, xupd_eq, List.set_cons_succ, List.set_cons_zero, xupd_ne])) (fun b hb => xcl_uA _ _ _ _ hb)
theorem xg4_2 {m : Nat} (hm : isM m = true) : fGetC 4 2 1 (mkX h c τ) (.ref m) = some (.int (τ.1 m 2)) := gt_of ((mkX_2 h c τ (xva_lt (by have := (isM_s hm).2.2.2.2.2.2; omega))).trans (xc_Model ((isM_s hm).1))) rfl (Nat.le_of_ble_eq_true rfl)
theorem xp4_2 {m : Nat} (hm : isM m = true) (x : Int32) : fPut 4 2 .int (mkX h c τ) (.ref m) (.int x) = some (mkX h c (uA τ m (xupd (τ.1 m) 2 x))) := pt_of (xva_lt (by have := (isM_s hm).2.2.2.2.2.2; omega)) (xc_Model ((isM_s hm).1)) (Nat.le_of_ble_eq_true rfl) rfl ((xc_Model ((isM_s hm).1)).trans (by simp (disch := decide) only [xfModel, uA, xupd_eq, List.set_cons_succ, List.set_cons_zero, xupd_ne])) (fun b hb => xcl_uA _ _ _ _ hb)
theorem xg4_3 {m : Nat} (hm : isM m = true) : fGetC 4 3 1 (mkX h c τ) (.ref m) = some (.ref (m + 1)) := gt_of ((mkX_2 h c τ (xva_lt (by have := (isM_s hm).2.2.2.2.2.2; omega))).trans (xc_Model ((isM_s hm).1))) rfl (Nat.le_of_ble_eq_true rfl)
theorem xg4_4 {m : Nat} (hm : isM m = true) : fGetC 4 4 1 (mkX h c τ) (.ref m) = some (.ref (m + 2)) := gt_of ((mkX_2 h c τ (xva_lt (by have := (isM_s hm).2.2.2.2.2.2; omega))).trans (xc_Model ((isM_s hm).1))) rfl (Nat.le_of_ble_eq_true rfl)
theorem xg4_5 {m : Nat} (hm : isM m = true) : fGetC 4 5 1 (mkX h c τ) (.ref m) = some (.ref (m + 3)) := gt_of ((mkX_2 h c τ (xva_lt (by have := (isM_s hm).2.2.2.2.2.2; omega))).trans (xc_Model ((isM_s hm).1))) rfl (Nat.le_of_ble_eq_true rfl)
theorem xg4_6 {m : Nat} (hm : isM m = true) : fGetC 4 6 1 (mkX h c τ) (.ref m) = some (.ref (m + 4)) := gt_of ((mkX_2 h c τ (xva_lt (by have := (isM_s hm).2.2.2.2.2.2; omega))).trans (xc_Model ((isM_s hm).1))) rfl (Nat.le_of_ble_eq_true rfl)
theorem xg4_7 {m : Nat} (hm : isM m = true) : fGetC 4 7 1 (mkX h c τ) (.ref m) = some (.ref (m + 5)) := gt_of ((mkX_2 h c τ (xva_lt (by have := (isM_s hm).2.2.2.2.2.2; omega))).trans (xc_Model ((isM_s hm).1))) rfl (Nat.le_of_ble_eq_true rfl)
theorem oX_History : okv 2 (mkX h c τ) (.ref 8) = True := okv_r 2 8 _ (xfHistory τ 8) ((mkX_2 h c τ (xva_lt (by decide))).trans (xc_History (rfl)))
theorem xg2_0 : fGetC 2 0 1 (mkX h c τ) (.ref 8) = some (.ref 9) := gt_of ((mkX_2 h c τ (xva_lt (by decide))).trans (xc_History (rfl))) rfl (Nat.le_of_ble_eq_true rfl)
theorem xg2_1 : fGetC 2 1 1 (mkX h c τ) (.ref 8) = some (.ref 10) := gt_of ((mkX_2 h c τ (xva_lt (by decide))).trans (xc_History (rfl))) rfl (Nat.le_of_ble_eq_true rfl)
theorem xg2_2 : fGetC 2 2 1 (mkX h c τ) (.ref 8) = some (.int (τ.1 8 2)) := gt_of ((mkX_2 h c τ (xva_lt (by decide))).trans (xc_History (rfl))) rfl (Nat.le_of_ble_eq_true rfl)
theorem xp2_2 (x : Int32) : fPut 2 2 .int (mkX h c τ) (.ref 8) (.int x) = some (mkX h c (uA τ 8 (xupd (τ.1 8) 2 x))) := pt_of (xva_lt (by decide)) (xc_History (rfl)) (Nat.le_of_ble_eq_true rfl) rfl ((xc_History (rfl)).trans (by simp (disch := decide) only [xfHistory, uA, xupd_eq, List.set_cons_succ, List.set_cons_zero, xupd_ne])) (fun b hb => xcl_uA _ _ _ _ hb)
theorem xg2_3 : fGetC 2 3 1 (mkX h c τ) (.ref 8) = some (.int (τ.1 8 3)) := gt_of ((mkX_2 h c τ (xva_lt (by decide))).trans (xc_History (rfl))) rfl (Nat.le_of_ble_eq_true rfl)
theorem xp2_3 (x : Int32) : fPut 2 3 .int (mkX h c τ) (.ref 8) (.int x) = some (mkX h c (uA τ 8 (xupd (τ.1 8) 3 x))) := pt_of (xva_lt (by decide)) (xc_History (rfl)) (Nat.le_of_ble_eq_true rfl) rfl ((xc_History (rfl)).trans (by simp (disch := decide) only [xfHistory, uA, xupd_eq, List.set_cons_succ, List.set_cons_zero, xupd_ne])) (fun b hb => xcl_uA _ _ _ _ hb)
theorem oX_Cut {q : Nat} (hm : isQ c.1 q = true) : okv 0 (mkX h c τ) (.ref q) = True := okv_r 0 q _ (xfCut τ q) ((mkX_2 h c τ ((isQ_s hm).2.2.2.1)).trans (xc_Cut ((isQ_s hm).1)))
theorem xg0_0 {q : Nat} (hm : isQ c.1 q = true) : fGetC 0 0 1 (mkX h c τ) (.ref q) = some (.int (τ.1 q 0)) := gt_of ((mkX_2 h c τ ((isQ_s hm).2.2.2.1)).trans (xc_Cut ((isQ_s hm).1))) rfl (Nat.le_of_ble_eq_true rfl)
theorem xp0_0 {q : Nat} (hm : isQ c.1 q = true) (x : Int32) : fPut 0 0 .int (mkX h c τ) (.ref q) (.int x) = some (mkX h c (uA τ q (xupd (τ.1 q) 0 x))) := pt_of ((isQ_s hm).2.2.2.1) (xc_Cut ((isQ_s hm).1)) (Nat.le_of_ble_eq_true rfl) rfl ((xc_Cut ((isQ_s hm).1)).trans (by simp (disch := decide) only [xfCut, uA, xupd_eq, List.set_cons_succ, List.set_cons_zero, xupd_ne])) (fun b hb => xcl_uA _ _ _ _ hb)
theorem xg0_1 {q : Nat} (hm : isQ c.1 q = true) : fGetC 0 1 1 (mkX h c τ) (.ref q) = some (.ref (q + 3)) := gt_of ((mkX_2 h c τ ((isQ_s hm).2.2.2.1)).trans (xc_Cut ((isQ_s hm).1))) rfl (Nat.le_of_ble_eq_true rfl)
theorem xg0_2 {q : Nat} (hm : isQ c.1 q = true) : fGetC 0 2 1 (mkX h c τ) (.ref q) = some (.ref (q + 1)) := gt_of ((mkX_2 h c τ ((isQ_s hm).2.2.2.1)).trans (xc_Cut ((isQ_s hm).1))) rfl (Nat.le_of_ble_eq_true rfl)
theorem oX_Values {v : Nat} (hm : isV c.1 v = true) : okv 8 (mkX h c τ) (.ref v) = True := okv_r 8 v _ (xfValues τ v) ((mkX_2 h c τ ((isV_s hm).2.2.1)).trans (xc_Values ((isV_s hm).1)))
theorem xg8_0 {v : Nat} (hm : isV c.1 v = true) : fGetC 8 0 1 (mkX h c τ) (.ref v) = some (.ref (v + 1)) := gt_of ((mkX_2 h c τ ((isV_s hm).2.2.1)).trans (xc_Values ((isV_s hm).1))) rfl (Nat.le_of_ble_eq_true rfl)
theorem xg8_1 {v : Nat} (hm : isV c.1 v = true) : fGetC 8 1 1 (mkX h c τ) (.ref v) = some (.int (τ.1 v 1)) := gt_of ((mkX_2 h c τ ((isV_s hm).2.2.1)).trans (xc_Values ((isV_s hm).1))) rfl (Nat.le_of_ble_eq_true rfl)
theorem xp8_1 {v : Nat} (hm : isV c.1 v = true) (x : Int32) : fPut 8 1 .int (mkX h c τ) (.ref v) (.int x) = some (mkX h c (uA τ v (xupd (τ.1 v) 1 x))) := pt_of ((isV_s hm).2.2.1) (xc_Values ((isV_s hm).1)) (Nat.le_of_ble_eq_true rfl) rfl ((xc_Values ((isV_s hm).1)).trans (by simp (disch := decide) only [xfValues, uA, xupd_eq, List.set_cons_succ, List.set_cons_zero, xupd_ne])) (fun b hb => xcl_uA _ _ _ _ hb)
theorem xg8_2 {v : Nat} (hm : isV c.1 v = true) : fGetC 8 2 1 (mkX h c τ) (.ref v) = some (.int (τ.1 v 2)) := gt_of ((mkX_2 h c τ ((isV_s hm).2.2.1)).trans (xc_Values ((isV_s hm).1))) rfl (Nat.le_of_ble_eq_true rfl)
theorem xp8_2 {v : Nat} (hm : isV c.1 v = true) (x : Int32) (hx : xfit .boolean (.int x) = true) : fPut 8 2 .boolean (mkX h c τ) (.ref v) (.int x) = some (mkX h c (uA τ v (xupd (τ.1 v) 2 x))) := pt_of ((isV_s hm).2.2.1) (xc_Values ((isV_s hm).1)) (Nat.le_of_ble_eq_true rfl) hx ((xc_Values ((isV_s hm).1)).trans (by simp (disch := decide) only [xfValues, uA, xupd_eq, List.set_cons_succ, List.set_cons_zero, xupd_ne])) (fun b hb => xcl_uA _ _ _ _ hb)
theorem xq8_2 {v : Nat} (hm : isV c.1 v = true) (b : Bool) : fPut 8 2 .boolean (mkX h c τ) (.ref v) (xbv b) = some (mkX h c (uA τ v (xupd (τ.1 v) 2 (bI b)))) := by cases b <;> exact xp8_2 h c τ hm _ rfl
theorem xg8_3 {v : Nat} (hm : isV c.1 v = true) : fGetC 8 3 1 (mkX h c τ) (.ref v) = some (.int (τ.1 v 3)) := gt_of ((mkX_2 h c τ ((isV_s hm).2.2.1)).trans (xc_Values ((isV_s hm).1))) rfl (Nat.le_of_ble_eq_true rfl)
theorem xp8_3 {v : Nat} (hm : isV c.1 v = true) (x : Int32) : fPut 8 3 .int (mkX h c τ) (.ref v) (.int x) = some (mkX h c (uA τ v (xupd (τ.1 v) 3 x))) := pt_of ((isV_s hm).2.2.1) (xc_Values ((isV_s hm).1)) (Nat.le_of_ble_eq_true rfl) rfl ((xc_Values ((isV_s hm).1)).trans (by simp (disch := decide) only [xfValues, uA, xupd_eq, List.set_cons_succ, List.set_cons_zero, xupd_ne])) (fun b hb => xcl_uA _ _ _ _ hb)
theorem xg8_4 {v : Nat} (hm : isV c.1 v = true) : fGetC 8 4 1 (mkX h c τ) (.ref v) = some (.int (τ.1 v 4)) := gt_of ((mkX_2 h c τ ((isV_s hm).2.2.1)).trans (xc_Values ((isV_s hm).1))) rfl (Nat.le_of_ble_eq_true rfl)
theorem xp8_4 {v : Nat} (hm : isV c.1 v = true) (x : Int32) : fPut 8 4 .int (mkX h c τ) (.ref v) (.int x) = some (mkX h c (uA τ v (xupd (τ.1 v) 4 x))) := pt_of ((isV_s hm).2.2.1) (xc_Values ((isV_s hm).1)) (Nat.le_of_ble_eq_true rfl) rfl ((xc_Values ((isV_s hm).1)).trans (by simp (disch := decide) only [xfValues, uA, xupd_eq, List.set_cons_succ, List.set_cons_zero, xupd_ne])) (fun b hb => xcl_uA _ _ _ _ hb)
theorem xg8_5 {v : Nat} (hm : isV c.1 v = true) : fGetC 8 5 1 (mkX h c τ) (.ref v) = some (.int (τ.1 v 5)) := gt_of ((mkX_2 h c τ ((isV_s hm).2.2.1)).trans (xc_Values ((isV_s hm).1))) rfl (Nat.le_of_ble_eq_true rfl)
theorem xp8_5 {v : Nat} (hm : isV c.1 v = true) (x : Int32) : fPut 8 5 .int (mkX h c τ) (.ref v) (.int x) = some (mkX h c (uA τ v (xupd (τ.1 v) 5 x))) := pt_of ((isV_s hm).2.2.1) (xc_Values ((isV_s hm).1)) (Nat.le_of_ble_eq_true rfl) rfl ((xc_Values ((isV_s hm).1)).trans (by simp (disch := decide) only [xfValues, uA, xupd_eq, List.set_cons_succ, List.set_cons_zero, xupd_ne])) (fun b hb => xcl_uA _ _ _ _ hb)
theorem xg8_6 {v : Nat} (hm : isV c.1 v = true) : fGetC 8 6 1 (mkX h c τ) (.ref v) = some (.int (τ.1 v 6)) := gt_of ((mkX_2 h c τ ((isV_s hm).2.2.1)).trans (xc_Values ((isV_s hm).1))) rfl (Nat.le_of_ble_eq_true rfl)
theorem xp8_6 {v : Nat} (hm : isV c.1 v = true) (x : Int32) : fPut 8 6 .int (mkX h c τ) (.ref v) (.int x) = some (mkX h c (uA τ v (xupd (τ.1 v) 6 x))) := pt_of ((isV_s hm).2.2.1) (xc_Values ((isV_s hm).1)) (Nat.le_of_ble_eq_true rfl) rfl ((xc_Values ((isV_s hm).1)).trans (by simp (disch := decide) only [xfValues, uA, xupd_eq, List.set_cons_succ, List.set_cons_zero, xupd_ne])) (fun b hb => xcl_uA _ _ _ _ hb)
theorem xg8_7 {v : Nat} (hm : isV c.1 v = true) : fGetC 8 7 1 (mkX h c τ) (.ref v) = some (.int (τ.1 v 7)) := gt_of ((mkX_2 h c τ ((isV_s hm).2.2.1)).trans (xc_Values ((isV_s hm).1))) rfl (Nat.le_of_ble_eq_true rfl)
theorem xp8_7 {v : Nat} (hm : isV c.1 v = true) (x : Int32) (hx : xfit .boolean (.int x) = true) : fPut 8 7 .boolean (mkX h c τ) (.ref v) (.int x) = some (mkX h c (uA τ v (xupd (τ.1 v) 7 x))) := pt_of ((isV_s hm).2.2.1) (xc_Values ((isV_s hm).1)) (Nat.le_of_ble_eq_true rfl) hx ((xc_Values ((isV_s hm).1)).trans (by simp (disch := decide) only [xfValues, uA, xupd_eq, List.set_cons_succ, List.set_cons_zero, xupd_ne])) (fun b hb => xcl_uA _ _ _ _ hb)
theorem xq8_7 {v : Nat} (hm : isV c.1 v = true) (b : Bool) : fPut 8 7 .boolean (mkX h c τ) (.ref v) (xbv b) = some (mkX h c (uA τ v (xupd (τ.1 v) 7 (bI b)))) := by cases b <;> exact xp8_7 h c τ hm _ rfl
theorem oX_Group : okv 1 (mkX h c τ) (.ref 73) = True := okv_r 1 73 _ (xfGroup τ 73) ((mkX_2 h c τ (xva_lt (by decide))).trans (xc_Group (rfl)))
theorem xg1_0 : fGetC 1 0 1 (mkX h c τ) (.ref 73) = some (.int (τ.1 73 0)) := gt_of ((mkX_2 h c τ (xva_lt (by decide))).trans (xc_Group (rfl))) rfl (Nat.le_of_ble_eq_true rfl)
theorem xp1_0 (x : Int32) : fPut 1 0 .int (mkX h c τ) (.ref 73) (.int x) = some (mkX h c (uA τ 73 (xupd (τ.1 73) 0 x))) := pt_of (xva_lt (by decide)) (xc_Group (rfl)) (Nat.le_of_ble_eq_true rfl) rfl ((xc_Group (rfl)).trans (by simp (disch := decide) only [xfGroup, uA, xupd_eq, List.set_cons_succ, List.set_cons_zero, xupd_ne])) (fun b hb => xcl_uA _ _ _ _ hb)
theorem xg1_1 : fGetC 1 1 1 (mkX h c τ) (.ref 73) = some (.int (τ.1 73 1)) := gt_of ((mkX_2 h c τ (xva_lt (by decide))).trans (xc_Group (rfl))) rfl (Nat.le_of_ble_eq_true rfl)
theorem xp1_1 (x : Int32) : fPut 1 1 .int (mkX h c τ) (.ref 73) (.int x) = some (mkX h c (uA τ 73 (xupd (τ.1 73) 1 x))) := pt_of (xva_lt (by decide)) (xc_Group (rfl)) (Nat.le_of_ble_eq_true rfl) rfl ((xc_Group (rfl)).trans (by simp (disch := decide) only [xfGroup, uA, xupd_eq, List.set_cons_succ, List.set_cons_zero, xupd_ne])) (fun b hb => xcl_uA _ _ _ _ hb)
theorem xg1_2 : fGetC 1 2 1 (mkX h c τ) (.ref 73) = some (.int (τ.1 73 2)) := gt_of ((mkX_2 h c τ (xva_lt (by decide))).trans (xc_Group (rfl))) rfl (Nat.le_of_ble_eq_true rfl)
theorem xp1_2 (x : Int32) : fPut 1 2 .int (mkX h c τ) (.ref 73) (.int x) = some (mkX h c (uA τ 73 (xupd (τ.1 73) 2 x))) := pt_of (xva_lt (by decide)) (xc_Group (rfl)) (Nat.le_of_ble_eq_true rfl) rfl ((xc_Group (rfl)).trans (by simp (disch := decide) only [xfGroup, uA, xupd_eq, List.set_cons_succ, List.set_cons_zero, xupd_ne])) (fun b hb => xcl_uA _ _ _ _ hb)
theorem xg1_3 : fGetC 1 3 1 (mkX h c τ) (.ref 73) = some (.ref 74) := gt_of ((mkX_2 h c τ (xva_lt (by decide))).trans (xc_Group (rfl))) rfl (Nat.le_of_ble_eq_true rfl)
theorem xg1_4 : fGetC 1 4 1 (mkX h c τ) (.ref 73) = some (.ref 75) := gt_of ((mkX_2 h c τ (xva_lt (by decide))).trans (xc_Group (rfl))) rfl (Nat.le_of_ble_eq_true rfl)
theorem xg1_5 : fGetC 1 5 1 (mkX h c τ) (.ref 73) = some (.ref 76) := gt_of ((mkX_2 h c τ (xva_lt (by decide))).trans (xc_Group (rfl))) rfl (Nat.le_of_ble_eq_true rfl)
theorem xg1_6 : fGetC 1 6 1 (mkX h c τ) (.ref 73) = some (.ref 77) := gt_of ((mkX_2 h c τ (xva_lt (by decide))).trans (xc_Group (rfl))) rfl (Nat.le_of_ble_eq_true rfl)
theorem xg1_7 : fGetC 1 7 1 (mkX h c τ) (.ref 73) = some (.ref 78) := gt_of ((mkX_2 h c τ (xva_lt (by decide))).trans (xc_Group (rfl))) rfl (Nat.le_of_ble_eq_true rfl)
theorem oX_Spread {s : Nat} (hm : isS s = true) : okv 5 (mkX h c τ) (.ref s) = True := okv_r 5 s _ (xfSpread τ s) ((mkX_2 h c τ (xva_lt (by have := (isS_s hm).2.2.2.2; omega))).trans (xc_Spread ((isS_s hm).1)))
theorem xg5_0 {s : Nat} (hm : isS s = true) : fGetC 5 0 1 (mkX h c τ) (.ref s) = some (.int (τ.1 s 0)) := gt_of ((mkX_2 h c τ (xva_lt (by have := (isS_s hm).2.2.2.2; omega))).trans (xc_Spread ((isS_s hm).1))) rfl (Nat.le_of_ble_eq_true rfl)
theorem xp5_0 {s : Nat} (hm : isS s = true) (x : Int32) : fPut 5 0 .int (mkX h c τ) (.ref s) (.int x) = some (mkX h c (uA τ s (xupd (τ.1 s) 0 x))) := pt_of (xva_lt (by have := (isS_s hm).2.2.2.2; omega)) (xc_Spread ((isS_s hm).1)) (Nat.le_of_ble_eq_true rfl) rfl ((xc_Spread ((isS_s hm).1)).trans (by simp (disch := decide) only [xfSpread, uA, xupd_eq, List.set_cons_succ, List.set_cons_zero, xupd_ne])) (fun b hb => xcl_uA _ _ _ _ hb)
theorem xg5_1 {s : Nat} (hm : isS s = true) : fGetC 5 1 1 (mkX h c τ) (.ref s) = some (.ref (s + 1)) := gt_of ((mkX_2 h c τ (xva_lt (by have := (isS_s hm).2.2.2.2; omega))).trans (xc_Spread ((isS_s hm).1))) rfl (Nat.le_of_ble_eq_true rfl)
theorem xg5_2 {s : Nat} (hm : isS s = true) : fGetC 5 2 1 (mkX h c τ) (.ref s) = some (.ref (s + 2)) := gt_of ((mkX_2 h c τ (xva_lt (by have := (isS_s hm).2.2.2.2; omega))).trans (xc_Spread ((isS_s hm).1))) rfl (Nat.le_of_ble_eq_true rfl)
theorem xg5_3 {s : Nat} (hm : isS s = true) : fGetC 5 3 1 (mkX h c τ) (.ref s) = some (.ref (s + 3)) := gt_of ((mkX_2 h c τ (xva_lt (by have := (isS_s hm).2.2.2.2; omega))).trans (xc_Spread ((isS_s hm).1))) rfl (Nat.le_of_ble_eq_true rfl)
theorem oX_Walks : okv 9 (mkX h c τ) (.ref 79) = True := okv_r 9 79 _ (xfWalks τ 79) ((mkX_2 h c τ (xva_lt (by decide))).trans (xc_Walks (rfl)))
theorem xg9_0 : fGetC 9 0 1 (mkX h c τ) (.ref 79) = some (.ref 80) := gt_of ((mkX_2 h c τ (xva_lt (by decide))).trans (xc_Walks (rfl))) rfl (Nat.le_of_ble_eq_true rfl)
theorem xg9_1 : fGetC 9 1 1 (mkX h c τ) (.ref 79) = some (.ref 84) := gt_of ((mkX_2 h c τ (xva_lt (by decide))).trans (xc_Walks (rfl))) rfl (Nat.le_of_ble_eq_true rfl)
theorem xg9_2 : fGetC 9 2 1 (mkX h c τ) (.ref 79) = some (.ref 85) := gt_of ((mkX_2 h c τ (xva_lt (by decide))).trans (xc_Walks (rfl))) rfl (Nat.le_of_ble_eq_true rfl)
theorem xg9_3 : fGetC 9 3 1 (mkX h c τ) (.ref 79) = some (.ref 86) := gt_of ((mkX_2 h c τ (xva_lt (by decide))).trans (xc_Walks (rfl))) rfl (Nat.le_of_ble_eq_true rfl)
theorem xg9_4 : fGetC 9 4 1 (mkX h c τ) (.ref 79) = some (.int (τ.1 79 4)) := gt_of ((mkX_2 h c τ (xva_lt (by decide))).trans (xc_Walks (rfl))) rfl (Nat.le_of_ble_eq_true rfl)
theorem xp9_4 (x : Int32) (hx : xfit .boolean (.int x) = true) : fPut 9 4 .boolean (mkX h c τ) (.ref 79) (.int x) = some (mkX h c (uA τ 79 (xupd (τ.1 79) 4 x))) := pt_of (xva_lt (by decide)) (xc_Walks (rfl)) (Nat.le_of_ble_eq_true rfl) hx ((xc_Walks (rfl)).trans (by simp (disch := decide) only [xfWalks, uA, xupd_eq, List.set_cons_succ, List.set_cons_zero, xupd_ne])) (fun b hb => xcl_uA _ _ _ _ hb)
theorem xq9_4 (b : Bool) : fPut 9 4 .boolean (mkX h c τ) (.ref 79) (xbv b) = some (mkX h c (uA τ 79 (xupd (τ.1 79) 4 (bI b)))) := by cases b <;> exact xp9_4 h c τ _ rfl
theorem xg9_5 : fGetC 9 5 1 (mkX h c τ) (.ref 79) = some (.int (τ.1 79 5)) := gt_of ((mkX_2 h c τ (xva_lt (by decide))).trans (xc_Walks (rfl))) rfl (Nat.le_of_ble_eq_true rfl)
theorem xp9_5 (x : Int32) (hx : xfit .boolean (.int x) = true) : fPut 9 5 .boolean (mkX h c τ) (.ref 79) (.int x) = some (mkX h c (uA τ 79 (xupd (τ.1 79) 5 x))) := pt_of (xva_lt (by decide)) (xc_Walks (rfl)) (Nat.le_of_ble_eq_true rfl) hx ((xc_Walks (rfl)).trans (by simp (disch := decide) only [xfWalks, uA, xupd_eq, List.set_cons_succ, List.set_cons_zero, xupd_ne])) (fun b hb => xcl_uA _ _ _ _ hb)
theorem xq9_5 (b : Bool) : fPut 9 5 .boolean (mkX h c τ) (.ref 79) (xbv b) = some (mkX h c (uA τ 79 (xupd (τ.1 79) 5 (bI b)))) := by cases b <;> exact xp9_5 h c τ _ rfl
theorem xg9_6 : fGetC 9 6 2 (mkX h c τ) (.ref 79) = some (.long (τ.2.1 79 6)) := gt_of ((mkX_2 h c τ (xva_lt (by decide))).trans (xc_Walks (rfl))) rfl (Nat.le_of_ble_eq_true rfl)
theorem xp9_6 (x : Int64) : fPut 9 6 .long (mkX h c τ) (.ref 79) (.long x) = some (mkX h c (uL τ 79 (xupd (τ.2.1 79) 6 x))) := pt_of (xva_lt (by decide)) (xc_Walks (rfl)) (Nat.le_of_ble_eq_true rfl) rfl ((xc_Walks (rfl)).trans (by simp (disch := decide) only [xfWalks, uL, xupd_eq, xupd_ne, List.set_cons_succ, List.set_cons_zero])) (fun b hb => xcl_uL _ _ _ _ hb)
theorem oX_Judge : okv 3 (mkX h c τ) (.ref 91) = True := okv_r 3 91 _ (xfJudge τ 91) ((mkX_2 h c τ (xva_lt (by decide))).trans (xc_Judge (rfl)))
theorem xg3_0 : fGetC 3 0 1 (mkX h c τ) (.ref 91) = some (.ref 92) := gt_of ((mkX_2 h c τ (xva_lt (by decide))).trans (xc_Judge (rfl))) rfl (Nat.le_of_ble_eq_true rfl)
theorem xg3_1 : fGetC 3 1 1 (mkX h c τ) (.ref 91) = some (.ref 93) := gt_of ((mkX_2 h c τ (xva_lt (by decide))).trans (xc_Judge (rfl))) rfl (Nat.le_of_ble_eq_true rfl)
theorem xg3_2 : fGetC 3 2 1 (mkX h c τ) (.ref 91) = some (.int (τ.1 91 2)) := gt_of ((mkX_2 h c τ (xva_lt (by decide))).trans (xc_Judge (rfl))) rfl (Nat.le_of_ble_eq_true rfl)
theorem xp3_2 (x : Int32) : fPut 3 2 .int (mkX h c τ) (.ref 91) (.int x) = some (mkX h c (uA τ 91 (xupd (τ.1 91) 2 x))) := pt_of (xva_lt (by decide)) (xc_Judge (rfl)) (Nat.le_of_ble_eq_true rfl) rfl ((xc_Judge (rfl)).trans (by simp (disch := decide) only [xfJudge, uA, xupd_eq, List.set_cons_succ, List.set_cons_zero, xupd_ne])) (fun b hb => xcl_uA _ _ _ _ hb)
theorem oX_Table : okv 6 (mkX h c τ) (.ref 94) = True := okv_r 6 94 _ (xfTable τ 94) ((mkX_2 h c τ (xva_lt (by decide))).trans (xc_Table (rfl)))
theorem xg6_0 : fGetC 6 0 1 (mkX h c τ) (.ref 94) = some (.int (τ.1 94 0)) := gt_of ((mkX_2 h c τ (xva_lt (by decide))).trans (xc_Table (rfl))) rfl (Nat.le_of_ble_eq_true rfl)
theorem xp6_0 (x : Int32) : fPut 6 0 .int (mkX h c τ) (.ref 94) (.int x) = some (mkX h c (uA τ 94 (xupd (τ.1 94) 0 x))) := pt_of (xva_lt (by decide)) (xc_Table (rfl)) (Nat.le_of_ble_eq_true rfl) rfl ((xc_Table (rfl)).trans (by simp (disch := decide) only [xfTable, uA, xupd_eq, List.set_cons_succ, List.set_cons_zero, xupd_ne])) (fun b hb => xcl_uA _ _ _ _ hb)
theorem xg6_1 : fGetC 6 1 1 (mkX h c τ) (.ref 94) = some (.ref 95) := gt_of ((mkX_2 h c τ (xva_lt (by decide))).trans (xc_Table (rfl))) rfl (Nat.le_of_ble_eq_true rfl)
theorem xg6_2 : fGetC 6 2 1 (mkX h c τ) (.ref 94) = some (.int (τ.1 94 2)) := gt_of ((mkX_2 h c τ (xva_lt (by decide))).trans (xc_Table (rfl))) rfl (Nat.le_of_ble_eq_true rfl)
theorem xp6_2 (x : Int32) : fPut 6 2 .int (mkX h c τ) (.ref 94) (.int x) = some (mkX h c (uA τ 94 (xupd (τ.1 94) 2 x))) := pt_of (xva_lt (by decide)) (xc_Table (rfl)) (Nat.le_of_ble_eq_true rfl) rfl ((xc_Table (rfl)).trans (by simp (disch := decide) only [xfTable, uA, xupd_eq, List.set_cons_succ, List.set_cons_zero, xupd_ne])) (fun b hb => xcl_uA _ _ _ _ hb)
theorem xg6_3 : fGetC 6 3 1 (mkX h c τ) (.ref 94) = some (.ref 96) := gt_of ((mkX_2 h c τ (xva_lt (by decide))).trans (xc_Table (rfl))) rfl (Nat.le_of_ble_eq_true rfl)
theorem oX_Tape : okv 7 (mkX h c τ) (.ref 71) = True := okv_r 7 71 _ (xfTape τ 71) ((mkX_2 h c τ (xva_lt (by decide))).trans (xc_Tape (rfl)))
theorem xg7_0 : fGetC 7 0 1 (mkX h c τ) (.ref 71) = some (.ref 72) := gt_of ((mkX_2 h c τ (xva_lt (by decide))).trans (xc_Tape (rfl))) rfl (Nat.le_of_ble_eq_true rfl)
theorem xg7_1 : fGetC 7 1 1 (mkX h c τ) (.ref 71) = some (.int (τ.1 71 1)) := gt_of ((mkX_2 h c τ (xva_lt (by decide))).trans (xc_Tape (rfl))) rfl (Nat.le_of_ble_eq_true rfl)
theorem xp7_1 (x : Int32) : fPut 7 1 .int (mkX h c τ) (.ref 71) (.int x) = some (mkX h c (uA τ 71 (xupd (τ.1 71) 1 x))) := pt_of (xva_lt (by decide)) (xc_Tape (rfl)) (Nat.le_of_ble_eq_true rfl) rfl ((xc_Tape (rfl)).trans (by simp (disch := decide) only [xfTape, uA, xupd_eq, List.set_cons_succ, List.set_cons_zero, xupd_ne])) (fun b hb => xcl_uA _ _ _ _ hb)
theorem xg7_2 : fGetC 7 2 1 (mkX h c τ) (.ref 71) = some (.int (τ.1 71 2)) := gt_of ((mkX_2 h c τ (xva_lt (by decide))).trans (xc_Tape (rfl))) rfl (Nat.le_of_ble_eq_true rfl)
theorem xp7_2 (x : Int32) : fPut 7 2 .int (mkX h c τ) (.ref 71) (.int x) = some (mkX h c (uA τ 71 (xupd (τ.1 71) 2 x))) := pt_of (xva_lt (by decide)) (xc_Tape (rfl)) (Nat.le_of_ble_eq_true rfl) rfl ((xc_Tape (rfl)).trans (by simp (disch := decide) only [xfTape, uA, xupd_eq, List.set_cons_succ, List.set_cons_zero, xupd_ne])) (fun b hb => xcl_uA _ _ _ _ hb)
theorem xg7_3 : fGetC 7 3 1 (mkX h c τ) (.ref 71) = some (.int (τ.1 71 3)) := gt_of ((mkX_2 h c τ (xva_lt (by decide))).trans (xc_Tape (rfl))) rfl (Nat.le_of_ble_eq_true rfl)
theorem xp7_3 (x : Int32) : fPut 7 3 .int (mkX h c τ) (.ref 71) (.int x) = some (mkX h c (uA τ 71 (xupd (τ.1 71) 3 x))) := pt_of (xva_lt (by decide)) (xc_Tape (rfl)) (Nat.le_of_ble_eq_true rfl) rfl ((xc_Tape (rfl)).trans (by simp (disch := decide) only [xfTape, uA, xupd_eq, List.set_cons_succ, List.set_cons_zero, xupd_ne])) (fun b hb => xcl_uA _ _ _ _ hb)
theorem xa2 {i : Nat} (hi : i < 9) : fIald (mkX h c τ) (.ref 2) (.int (nI i)) = some (.int (τ.1 2 i)) := ldI (xva_lt (by decide)) rfl (by decide) hi
theorem xt2_ {i : Nat} (x : Int32) (hi : i < 9) : fIast (mkX h c τ) (.ref 2) (.int (nI i)) (.int x) = some (mkX h c (uA τ 2 (xupd (τ.1 2) i x))) := stI x (xva_lt (by decide)) rfl (by decide) hi
theorem xl2 : fAlen .int (mkX h c τ) (.ref 2) = some (.int (nI 9)) := al_of ((mkX_2 h c τ (xva_lt (by decide))).trans (xc_12 rfl))
theorem xa3 {i : Nat} (hi : i < 3) : fIald (mkX h c τ) (.ref 3) (.int (nI i)) = some (.int (τ.1 3 i)) := ldI (xva_lt (by decide)) rfl (by decide) hi
theorem xt3_ {i : Nat} (x : Int32) (hi : i < 3) : fIast (mkX h c τ) (.ref 3) (.int (nI i)) (.int x) = some (mkX h c (uA τ 3 (xupd (τ.1 3) i x))) := stI x (xva_lt (by decide)) rfl (by decide) hi
theorem xl3 : fAlen .int (mkX h c τ) (.ref 3) = some (.int (nI 3)) := al_of ((mkX_2 h c τ (xva_lt (by decide))).trans (xc_12 rfl))
theorem xa4 {i : Nat} (hi : i < 18) : fIald (mkX h c τ) (.ref 4) (.int (nI i)) = some (.int (τ.1 4 i)) := ldI (xva_lt (by decide)) rfl (by decide) hi
theorem xt4_ {i : Nat} (x : Int32) (hi : i < 18) : fIast (mkX h c τ) (.ref 4) (.int (nI i)) (.int x) = some (mkX h c (uA τ 4 (xupd (τ.1 4) i x))) := stI x (xva_lt (by decide)) rfl (by decide) hi
theorem xl4 : fAlen .int (mkX h c τ) (.ref 4) = some (.int (nI 18)) := al_of ((mkX_2 h c τ (xva_lt (by decide))).trans (xc_12 rfl))
theorem xa5 {i : Nat} (hi : i < 6) : fIald (mkX h c τ) (.ref 5) (.int (nI i)) = some (.int (τ.1 5 i)) := ldI (xva_lt (by decide)) rfl (by decide) hi
theorem xt5_ {i : Nat} (x : Int32) (hi : i < 6) : fIast (mkX h c τ) (.ref 5) (.int (nI i)) (.int x) = some (mkX h c (uA τ 5 (xupd (τ.1 5) i x))) := stI x (xva_lt (by decide)) rfl (by decide) hi
theorem xl5 : fAlen .int (mkX h c τ) (.ref 5) = some (.int (nI 6)) := al_of ((mkX_2 h c τ (xva_lt (by decide))).trans (xc_12 rfl))
theorem xa6 {i : Nat} (hi : i < 8) : fAald "CornerCuts$Cut" (mkX h c τ) (.ref 6) (.int (nI i)) = some (xrfv (τ.2.2 6 i)) := ldPt ((mkX_2 h c τ (xva_lt (by decide))).trans (xc_14 rfl)) (by decide) hi
theorem xt6_ {i : Nat} (o : Option Nat) (hi : i < 8) (ho : ∀ q, o = some q → isQ c.1 q = true) : fAast "CornerCuts$Cut" 0 (mkX h c τ) (.ref 6) (.int (nI i)) (xrfv o) = some (mkX h c (uP τ 6 (xupd (τ.2.2 6) i o))) := (stPt (fs := xfCut τ) o ((mkX_2 h c τ (xva_lt (by decide))).trans (xc_14 rfl)) (fun q hq => (mkX_2 h c τ (isQ_s (ho q hq)).2.2.2.1).trans (xc_Cut (isQ_s (ho q hq)).1)) (by decide) hi).trans (congrArg some (stP o (xva_lt (by decide)) rfl))
theorem xl6 : fAlen (.object "CornerCuts$Cut") (mkX h c τ) (.ref 6) = some (.int (nI 8)) := al_of ((mkX_2 h c τ (xva_lt (by decide))).trans (xc_14 rfl))
theorem xa7 {i : Nat} (hi : i < 2) : fAald "CornerCuts$Model" (mkX h c τ) (.ref 7) (.int (nI i)) = some (xrfv (τ.2.2 7 i)) := ldPt ((mkX_2 h c τ (xva_lt (by decide))).trans (xc_15 rfl)) (by decide) hi
theorem xl7 : fAlen (.object "CornerCuts$Model") (mkX h c τ) (.ref 7) = some (.int (nI 2)) := al_of ((mkX_2 h c τ (xva_lt (by decide))).trans (xc_15 rfl))
theorem xa9 {i : Nat} (hi : i < 10) : fAald "CornerCuts$Model" (mkX h c τ) (.ref 9) (.int (nI i)) = some (xrfv (τ.2.2 9 i)) := ldPt ((mkX_2 h c τ (xva_lt (by decide))).trans (xc_15 rfl)) (by decide) hi
theorem xl9 : fAlen (.object "CornerCuts$Model") (mkX h c τ) (.ref 9) = some (.int (nI 10)) := al_of ((mkX_2 h c τ (xva_lt (by decide))).trans (xc_15 rfl))
theorem xa10 {i : Nat} (hi : i < 10) : fIald (mkX h c τ) (.ref 10) (.int (nI i)) = some (.int (τ.1 10 i)) := ldI (xva_lt (by decide)) rfl (by decide) hi
theorem xt10_ {i : Nat} (x : Int32) (hi : i < 10) : fIast (mkX h c τ) (.ref 10) (.int (nI i)) (.int x) = some (mkX h c (uA τ 10 (xupd (τ.1 10) i x))) := stI x (xva_lt (by decide)) rfl (by decide) hi
theorem xl10 : fAlen .int (mkX h c τ) (.ref 10) = some (.int (nI 10)) := al_of ((mkX_2 h c τ (xva_lt (by decide))).trans (xc_12 rfl))
theorem xa72 {i : Nat} (hi : i < 400) : fIald (mkX h c τ) (.ref 72) (.int (nI i)) = some (.int (τ.1 72 i)) := ldI (xva_lt (by decide)) rfl (by decide) hi
theorem xt72_ {i : Nat} (x : Int32) (hi : i < 400) : fIast (mkX h c τ) (.ref 72) (.int (nI i)) (.int x) = some (mkX h c (uA τ 72 (xupd (τ.1 72) i x))) := stI x (xva_lt (by decide)) rfl (by decide) hi
theorem xl72 : fAlen .int (mkX h c τ) (.ref 72) = some (.int (nI 400)) := al_of ((mkX_2 h c τ (xva_lt (by decide))).trans (xc_12 rfl))
theorem xa74 {i : Nat} (hi : i < 9) : fIald (mkX h c τ) (.ref 74) (.int (nI i)) = some (.int (τ.1 74 i)) := ldI (xva_lt (by decide)) rfl (by decide) hi
theorem xt74_ {i : Nat} (x : Int32) (hi : i < 9) : fIast (mkX h c τ) (.ref 74) (.int (nI i)) (.int x) = some (mkX h c (uA τ 74 (xupd (τ.1 74) i x))) := stI x (xva_lt (by decide)) rfl (by decide) hi
theorem xl74 : fAlen .int (mkX h c τ) (.ref 74) = some (.int (nI 9)) := al_of ((mkX_2 h c τ (xva_lt (by decide))).trans (xc_12 rfl))
theorem xa75 {i : Nat} (hi : i < 9) : fIald (mkX h c τ) (.ref 75) (.int (nI i)) = some (.int (τ.1 75 i)) := ldI (xva_lt (by decide)) rfl (by decide) hi
theorem xt75_ {i : Nat} (x : Int32) (hi : i < 9) : fIast (mkX h c τ) (.ref 75) (.int (nI i)) (.int x) = some (mkX h c (uA τ 75 (xupd (τ.1 75) i x))) := stI x (xva_lt (by decide)) rfl (by decide) hi
theorem xl75 : fAlen .int (mkX h c τ) (.ref 75) = some (.int (nI 9)) := al_of ((mkX_2 h c τ (xva_lt (by decide))).trans (xc_12 rfl))
theorem xa76 {i : Nat} (hi : i < 3) : fIald (mkX h c τ) (.ref 76) (.int (nI i)) = some (.int (τ.1 76 i)) := ldI (xva_lt (by decide)) rfl (by decide) hi
theorem xt76_ {i : Nat} (x : Int32) (hi : i < 3) : fIast (mkX h c τ) (.ref 76) (.int (nI i)) (.int x) = some (mkX h c (uA τ 76 (xupd (τ.1 76) i x))) := stI x (xva_lt (by decide)) rfl (by decide) hi
theorem xl76 : fAlen .int (mkX h c τ) (.ref 76) = some (.int (nI 3)) := al_of ((mkX_2 h c τ (xva_lt (by decide))).trans (xc_12 rfl))
theorem xa77 {i : Nat} (hi : i < 72) : fIald (mkX h c τ) (.ref 77) (.int (nI i)) = some (.int (τ.1 77 i)) := ldI (xva_lt (by decide)) rfl (by decide) hi
theorem xt77_ {i : Nat} (x : Int32) (hi : i < 72) : fIast (mkX h c τ) (.ref 77) (.int (nI i)) (.int x) = some (mkX h c (uA τ 77 (xupd (τ.1 77) i x))) := stI x (xva_lt (by decide)) rfl (by decide) hi
theorem xl77 : fAlen .int (mkX h c τ) (.ref 77) = some (.int (nI 72)) := al_of ((mkX_2 h c τ (xva_lt (by decide))).trans (xc_12 rfl))
theorem xa78 {i : Nat} (hi : i < 576) : fIald (mkX h c τ) (.ref 78) (.int (nI i)) = some (.int (τ.1 78 i)) := ldI (xva_lt (by decide)) rfl (by decide) hi
theorem xt78_ {i : Nat} (x : Int32) (hi : i < 576) : fIast (mkX h c τ) (.ref 78) (.int (nI i)) (.int x) = some (mkX h c (uA τ 78 (xupd (τ.1 78) i x))) := stI x (xva_lt (by decide)) rfl (by decide) hi
theorem xl78 : fAlen .int (mkX h c τ) (.ref 78) = some (.int (nI 576)) := al_of ((mkX_2 h c τ (xva_lt (by decide))).trans (xc_12 rfl))
theorem xa84 {i : Nat} (hi : i < 6) : fIald (mkX h c τ) (.ref 84) (.int (nI i)) = some (.int (τ.1 84 i)) := ldI (xva_lt (by decide)) rfl (by decide) hi
theorem xt84_ {i : Nat} (x : Int32) (hi : i < 6) : fIast (mkX h c τ) (.ref 84) (.int (nI i)) (.int x) = some (mkX h c (uA τ 84 (xupd (τ.1 84) i x))) := stI x (xva_lt (by decide)) rfl (by decide) hi
theorem xl84 : fAlen .int (mkX h c τ) (.ref 84) = some (.int (nI 6)) := al_of ((mkX_2 h c τ (xva_lt (by decide))).trans (xc_12 rfl))
theorem xa85 {i : Nat} (hi : i < 3) : fIald (mkX h c τ) (.ref 85) (.int (nI i)) = some (.int (τ.1 85 i)) := ldI (xva_lt (by decide)) rfl (by decide) hi
theorem xt85_ {i : Nat} (x : Int32) (hi : i < 3) : fIast (mkX h c τ) (.ref 85) (.int (nI i)) (.int x) = some (mkX h c (uA τ 85 (xupd (τ.1 85) i x))) := stI x (xva_lt (by decide)) rfl (by decide) hi
theorem xl85 : fAlen .int (mkX h c τ) (.ref 85) = some (.int (nI 3)) := al_of ((mkX_2 h c τ (xva_lt (by decide))).trans (xc_12 rfl))
theorem xa86 {i : Nat} (hi : i < 3) : fIald (mkX h c τ) (.ref 86) (.int (nI i)) = some (.int (τ.1 86 i)) := ldI (xva_lt (by decide)) rfl (by decide) hi
theorem xt86_ {i : Nat} (x : Int32) (hi : i < 3) : fIast (mkX h c τ) (.ref 86) (.int (nI i)) (.int x) = some (mkX h c (uA τ 86 (xupd (τ.1 86) i x))) := stI x (xva_lt (by decide)) rfl (by decide) hi
theorem xl86 : fAlen .int (mkX h c τ) (.ref 86) = some (.int (nI 3)) := al_of ((mkX_2 h c τ (xva_lt (by decide))).trans (xc_12 rfl))
theorem xa92 {i : Nat} (hi : i < 24) : fLald (mkX h c τ) (.ref 92) (.int (nI i)) = some (.long (τ.2.1 92 i)) := ldL (xva_lt (by decide)) rfl (by decide) hi
theorem xt92_ {i : Nat} (x : Int64) (hi : i < 24) : fLast (mkX h c τ) (.ref 92) (.int (nI i)) (.long x) = some (mkX h c (uL τ 92 (xupd (τ.2.1 92) i x))) := stL x (xva_lt (by decide)) rfl (by decide) hi
theorem xl92 : fAlen .long (mkX h c τ) (.ref 92) = some (.int (nI 24)) := al_of ((mkX_2 h c τ (xva_lt (by decide))).trans (xc_13 rfl))
theorem xa93 {i : Nat} (hi : i < 576) : fLald (mkX h c τ) (.ref 93) (.int (nI i)) = some (.long (τ.2.1 93 i)) := ldL (xva_lt (by decide)) rfl (by decide) hi
theorem xt93_ {i : Nat} (x : Int64) (hi : i < 576) : fLast (mkX h c τ) (.ref 93) (.int (nI i)) (.long x) = some (mkX h c (uL τ 93 (xupd (τ.2.1 93) i x))) := stL x (xva_lt (by decide)) rfl (by decide) hi
theorem xl93 : fAlen .long (mkX h c τ) (.ref 93) = some (.int (nI 576)) := al_of ((mkX_2 h c τ (xva_lt (by decide))).trans (xc_13 rfl))
theorem xa95 {i : Nat} (hi : i < 25) : fAald "CornerCuts$Values" (mkX h c τ) (.ref 95) (.int (nI i)) = some (xrfv (τ.2.2 95 i)) := ldPt ((mkX_2 h c τ (xva_lt (by decide))).trans (xc_16 rfl)) (by decide) hi
theorem xt95_ {i : Nat} (o : Option Nat) (hi : i < 25) (ho : ∀ q, o = some q → isV c.1 q = true) : fAast "CornerCuts$Values" 8 (mkX h c τ) (.ref 95) (.int (nI i)) (xrfv o) = some (mkX h c (uP τ 95 (xupd (τ.2.2 95) i o))) := (stPt (fs := xfValues τ) o ((mkX_2 h c τ (xva_lt (by decide))).trans (xc_16 rfl)) (fun q hq => (mkX_2 h c τ (isV_s (ho q hq)).2.2.1).trans (xc_Values (isV_s (ho q hq)).1)) (by decide) hi).trans (congrArg some (stV o (xva_lt (by decide)) rfl))
theorem xl95 : fAlen (.object "CornerCuts$Values") (mkX h c τ) (.ref 95) = some (.int (nI 25)) := al_of ((mkX_2 h c τ (xva_lt (by decide))).trans (xc_16 rfl))
theorem xa96 {i : Nat} (hi : i < 72) : fIald (mkX h c τ) (.ref 96) (.int (nI i)) = some (.int (τ.1 96 i)) := ldI (xva_lt (by decide)) rfl (by decide) hi
theorem xt96_ {i : Nat} (x : Int32) (hi : i < 72) : fIast (mkX h c τ) (.ref 96) (.int (nI i)) (.int x) = some (mkX h c (uA τ 96 (xupd (τ.1 96) i x))) := stI x (xva_lt (by decide)) rfl (by decide) hi
theorem xl96 : fAlen .int (mkX h c τ) (.ref 96) = some (.int (nI 72)) := al_of ((mkX_2 h c τ (xva_lt (by decide))).trans (xc_12 rfl))
theorem xa147 {i : Nat} (hi : i < 24) : fIald (mkX h c τ) (.ref 147) (.int (nI i)) = some (.int (τ.1 147 i)) := ldI (xva_lt (by decide)) rfl (by decide) hi
theorem xt147_ {i : Nat} (x : Int32) (hi : i < 24) : fIast (mkX h c τ) (.ref 147) (.int (nI i)) (.int x) = some (mkX h c (uA τ 147 (xupd (τ.1 147) i x))) := stI x (xva_lt (by decide)) rfl (by decide) hi
theorem xl147 : fAlen .int (mkX h c τ) (.ref 147) = some (.int (nI 24)) := al_of ((mkX_2 h c τ (xva_lt (by decide))).trans (xc_12 rfl))
theorem xa148 {i : Nat} (hi : i < 6) : fIald (mkX h c τ) (.ref 148) (.int (nI i)) = some (.int (τ.1 148 i)) := ldI (xva_lt (by decide)) rfl (by decide) hi
theorem xt148_ {i : Nat} (x : Int32) (hi : i < 6) : fIast (mkX h c τ) (.ref 148) (.int (nI i)) (.int x) = some (mkX h c (uA τ 148 (xupd (τ.1 148) i x))) := stI x (xva_lt (by decide)) rfl (by decide) hi
theorem xl148 : fAlen .int (mkX h c τ) (.ref 148) = some (.int (nI 6)) := al_of ((mkX_2 h c τ (xva_lt (by decide))).trans (xc_12 rfl))
theorem xa149 {i : Nat} (hi : i < 7) : fIald (mkX h c τ) (.ref 149) (.int (nI i)) = some (.int (τ.1 149 i)) := ldI (xva_lt (by decide)) rfl (by decide) hi
theorem xt149_ {i : Nat} (x : Int32) (hi : i < 7) : fIast (mkX h c τ) (.ref 149) (.int (nI i)) (.int x) = some (mkX h c (uA τ 149 (xupd (τ.1 149) i x))) := stI x (xva_lt (by decide)) rfl (by decide) hi
theorem xl149 : fAlen .int (mkX h c τ) (.ref 149) = some (.int (nI 7)) := al_of ((mkX_2 h c τ (xva_lt (by decide))).trans (xc_12 rfl))
theorem xaM1 {m : Nat} (hm : isM m = true) {i : Nat} (hi : i < 9) : fIald (mkX h c τ) (.ref (m + 1)) (.int (nI i)) = some (.int (τ.1 (m + 1) i)) := ldI (xva_lt (by have := (isM_s hm).2.2.2.2.2.2; omega)) ((isM_s hm).2.1) (by decide) hi
theorem xtM1_ {m : Nat} (hm : isM m = true) {i : Nat} (x : Int32) (hi : i < 9) : fIast (mkX h c τ) (.ref (m + 1)) (.int (nI i)) (.int x) = some (mkX h c (uA τ (m + 1) (xupd (τ.1 (m + 1)) i x))) := stI x (xva_lt (by have := (isM_s hm).2.2.2.2.2.2; omega)) ((isM_s hm).2.1) (by decide) hi
theorem xlM1 {m : Nat} (hm : isM m = true) : fAlen .int (mkX h c τ) (.ref (m + 1)) = some (.int (nI 9)) := al_of ((mkX_2 h c τ (xva_lt (by have := (isM_s hm).2.2.2.2.2.2; omega))).trans (xc_12 ((isM_s hm).2.1)))
theorem xaM2 {m : Nat} (hm : isM m = true) {i : Nat} (hi : i < 3) : fIald (mkX h c τ) (.ref (m + 2)) (.int (nI i)) = some (.int (τ.1 (m + 2) i)) := ldI (xva_lt (by have := (isM_s hm).2.2.2.2.2.2; omega)) ((isM_s hm).2.2.1) (by decide) hi
theorem xtM2_ {m : Nat} (hm : isM m = true) {i : Nat} (x : Int32) (hi : i < 3) : fIast (mkX h c τ) (.ref (m + 2)) (.int (nI i)) (.int x) = some (mkX h c (uA τ (m + 2) (xupd (τ.1 (m + 2)) i x))) := stI x (xva_lt (by have := (isM_s hm).2.2.2.2.2.2; omega)) ((isM_s hm).2.2.1) (by decide) hi
theorem xlM2 {m : Nat} (hm : isM m = true) : fAlen .int (mkX h c τ) (.ref (m + 2)) = some (.int (nI 3)) := al_of ((mkX_2 h c τ (xva_lt (by have := (isM_s hm).2.2.2.2.2.2; omega))).trans (xc_12 ((isM_s hm).2.2.1)))
theorem xaM3 {m : Nat} (hm : isM m = true) {i : Nat} (hi : i < 18) : fIald (mkX h c τ) (.ref (m + 3)) (.int (nI i)) = some (.int (τ.1 (m + 3) i)) := ldI (xva_lt (by have := (isM_s hm).2.2.2.2.2.2; omega)) ((isM_s hm).2.2.2.1) (by decide) hi
theorem xtM3_ {m : Nat} (hm : isM m = true) {i : Nat} (x : Int32) (hi : i < 18) : fIast (mkX h c τ) (.ref (m + 3)) (.int (nI i)) (.int x) = some (mkX h c (uA τ (m + 3) (xupd (τ.1 (m + 3)) i x))) := stI x (xva_lt (by have := (isM_s hm).2.2.2.2.2.2; omega)) ((isM_s hm).2.2.2.1) (by decide) hi
theorem xlM3 {m : Nat} (hm : isM m = true) : fAlen .int (mkX h c τ) (.ref (m + 3)) = some (.int (nI 18)) := al_of ((mkX_2 h c τ (xva_lt (by have := (isM_s hm).2.2.2.2.2.2; omega))).trans (xc_12 ((isM_s hm).2.2.2.1)))
theorem xaM4 {m : Nat} (hm : isM m = true) {i : Nat} (hi : i < 6) : fIald (mkX h c τ) (.ref (m + 4)) (.int (nI i)) = some (.int (τ.1 (m + 4) i)) := ldI (xva_lt (by have := (isM_s hm).2.2.2.2.2.2; omega)) ((isM_s hm).2.2.2.2.1) (by decide) hi
theorem xtM4_ {m : Nat} (hm : isM m = true) {i : Nat} (x : Int32) (hi : i < 6) : fIast (mkX h c τ) (.ref (m + 4)) (.int (nI i)) (.int x) = some (mkX h c (uA τ (m + 4) (xupd (τ.1 (m + 4)) i x))) := stI x (xva_lt (by have := (isM_s hm).2.2.2.2.2.2; omega)) ((isM_s hm).2.2.2.2.1) (by decide) hi
theorem xlM4 {m : Nat} (hm : isM m = true) : fAlen .int (mkX h c τ) (.ref (m + 4)) = some (.int (nI 6)) := al_of ((mkX_2 h c τ (xva_lt (by have := (isM_s hm).2.2.2.2.2.2; omega))).trans (xc_12 ((isM_s hm).2.2.2.2.1)))
theorem xaM5 {m : Nat} (hm : isM m = true) {i : Nat} (hi : i < 8) : fAald "CornerCuts$Cut" (mkX h c τ) (.ref (m + 5)) (.int (nI i)) = some (xrfv (τ.2.2 (m + 5) i)) := ldPt ((mkX_2 h c τ (xva_lt (by have := (isM_s hm).2.2.2.2.2.2; omega))).trans (xc_14 ((isM_s hm).2.2.2.2.2.1))) (by decide) hi
theorem xtM5_ {m : Nat} (hm : isM m = true) {i : Nat} (o : Option Nat) (hi : i < 8) (ho : ∀ q, o = some q → isQ c.1 q = true) : fAast "CornerCuts$Cut" 0 (mkX h c τ) (.ref (m + 5)) (.int (nI i)) (xrfv o) = some (mkX h c (uP τ (m + 5) (xupd (τ.2.2 (m + 5)) i o))) := (stPt (fs := xfCut τ) o ((mkX_2 h c τ (xva_lt (by have := (isM_s hm).2.2.2.2.2.2; omega))).trans (xc_14 ((isM_s hm).2.2.2.2.2.1))) (fun q hq => (mkX_2 h c τ (isQ_s (ho q hq)).2.2.2.1).trans (xc_Cut (isQ_s (ho q hq)).1)) (by decide) hi).trans (congrArg some (stP o (xva_lt (by have := (isM_s hm).2.2.2.2.2.2; omega)) ((isM_s hm).2.2.2.2.2.1)))
theorem xaS1 {s : Nat} (hm : isS s = true) {i : Nat} (hi : i < 24) : fIald (mkX h c τ) (.ref (s + 1)) (.int (nI i)) = some (.int (τ.1 (s + 1) i)) := ldI (xva_lt (by have := (isS_s hm).2.2.2.2; omega)) ((isS_s hm).2.1) (by decide) hi
theorem xtS1_ {s : Nat} (hm : isS s = true) {i : Nat} (x : Int32) (hi : i < 24) : fIast (mkX h c τ) (.ref (s + 1)) (.int (nI i)) (.int x) = some (mkX h c (uA τ (s + 1) (xupd (τ.1 (s + 1)) i x))) := stI x (xva_lt (by have := (isS_s hm).2.2.2.2; omega)) ((isS_s hm).2.1) (by decide) hi
theorem xlS1 {s : Nat} (hm : isS s = true) : fAlen .int (mkX h c τ) (.ref (s + 1)) = some (.int (nI 24)) := al_of ((mkX_2 h c τ (xva_lt (by have := (isS_s hm).2.2.2.2; omega))).trans (xc_12 ((isS_s hm).2.1)))
theorem xaS2 {s : Nat} (hm : isS s = true) {i : Nat} (hi : i < 24) : fLald (mkX h c τ) (.ref (s + 2)) (.int (nI i)) = some (.long (τ.2.1 (s + 2) i)) := ldL (xva_lt (by have := (isS_s hm).2.2.2.2; omega)) ((isS_s hm).2.2.1) (by decide) hi
theorem xtS2_ {s : Nat} (hm : isS s = true) {i : Nat} (x : Int64) (hi : i < 24) : fLast (mkX h c τ) (.ref (s + 2)) (.int (nI i)) (.long x) = some (mkX h c (uL τ (s + 2) (xupd (τ.2.1 (s + 2)) i x))) := stL x (xva_lt (by have := (isS_s hm).2.2.2.2; omega)) ((isS_s hm).2.2.1) (by decide) hi
theorem xlS2 {s : Nat} (hm : isS s = true) : fAlen .long (mkX h c τ) (.ref (s + 2)) = some (.int (nI 24)) := al_of ((mkX_2 h c τ (xva_lt (by have := (isS_s hm).2.2.2.2; omega))).trans (xc_13 ((isS_s hm).2.2.1)))
theorem xaS3 {s : Nat} (hm : isS s = true) {i : Nat} (hi : i < 24) : fLald (mkX h c τ) (.ref (s + 3)) (.int (nI i)) = some (.long (τ.2.1 (s + 3) i)) := ldL (xva_lt (by have := (isS_s hm).2.2.2.2; omega)) ((isS_s hm).2.2.2.1) (by decide) hi
theorem xtS3_ {s : Nat} (hm : isS s = true) {i : Nat} (x : Int64) (hi : i < 24) : fLast (mkX h c τ) (.ref (s + 3)) (.int (nI i)) (.long x) = some (mkX h c (uL τ (s + 3) (xupd (τ.2.1 (s + 3)) i x))) := stL x (xva_lt (by have := (isS_s hm).2.2.2.2; omega)) ((isS_s hm).2.2.2.1) (by decide) hi
theorem xlS3 {s : Nat} (hm : isS s = true) : fAlen .long (mkX h c τ) (.ref (s + 3)) = some (.int (nI 24)) := al_of ((mkX_2 h c τ (xva_lt (by have := (isS_s hm).2.2.2.2; omega))).trans (xc_13 ((isS_s hm).2.2.2.1)))
theorem xaV1 {v : Nat} (hm : isV c.1 v = true) {i : Nat} (hi : i < 24) : fIald (mkX h c τ) (.ref (v + 1)) (.int (nI i)) = some (.int (τ.1 (v + 1) i)) := ldI ((isV_s hm).2.2.2) ((isV_s hm).2.1) (by decide) hi
theorem xtV1_ {v : Nat} (hm : isV c.1 v = true) {i : Nat} (x : Int32) (hi : i < 24) : fIast (mkX h c τ) (.ref (v + 1)) (.int (nI i)) (.int x) = some (mkX h c (uA τ (v + 1) (xupd (τ.1 (v + 1)) i x))) := stI x ((isV_s hm).2.2.2) ((isV_s hm).2.1) (by decide) hi
theorem xlV1 {v : Nat} (hm : isV c.1 v = true) : fAlen .int (mkX h c τ) (.ref (v + 1)) = some (.int (nI 24)) := al_of ((mkX_2 h c τ ((isV_s hm).2.2.2)).trans (xc_12 ((isV_s hm).2.1)))
theorem xaQ3 {q : Nat} (hm : isQ c.1 q = true) {i : Nat} (hn : c.2 (q + 3) < 2147483648) (hi : i < c.2 (q + 3)) : fIald (mkX h c τ) (.ref (q + 3)) (.int (nI i)) = some (.int (τ.1 (q + 3) i)) := by
  have e : xinb (nI i) (c.2 (q + 3)) = true := by rw [xinb_n (by omega)]; exact decide_eq_true hi
  show (match (mkX h c τ).2 (q + 3) with | some (.inl (.int, n, .inl f)) => if xinb (nI i) n = true then some (Value.int (f (nI i).toNatClampNeg)) else none | _ => none) = _
  rw [mkX_2 h c τ (isQ_s hm).2.2.2.2, xc_17 (isQ_s hm).2.2.1]
  dsimp only
  rw [if_pos e, nI_clamp (by omega)]
theorem xlQ3 {q : Nat} (hm : isQ c.1 q = true) : fAlen .int (mkX h c τ) (.ref (q + 3)) = some (.int (nI (c.2 (q + 3)))) := al_of ((mkX_2 h c τ (isQ_s hm).2.2.2.2).trans (xc_17 (isQ_s hm).2.2.1))
end
theorem xrf_n : xrfv none = .null := rfl
theorem xrf_s (q : Nat) : xrfv (some q) = .ref q := rfl
theorem vA_eq (τ : XS) (a : Nat) (f : Nat → Int32) : (uA τ a f).1 a = f := xupd_eq
theorem vA_ne (τ : XS) {a b : Nat} (f : Nat → Int32) (h : b ≠ a) : (uA τ a f).1 b = τ.1 b := xupd_ne h
theorem vA_2 (τ : XS) (a : Nat) (f : Nat → Int32) : (uA τ a f).2 = τ.2 := rfl
theorem vL_1 (τ : XS) (a : Nat) (f : Nat → Int64) : (uL τ a f).1 = τ.1 := rfl
theorem vL_eq (τ : XS) (a : Nat) (f : Nat → Int64) : (uL τ a f).2.1 a = f := xupd_eq
theorem vL_ne (τ : XS) {a b : Nat} (f : Nat → Int64) (h : b ≠ a) : (uL τ a f).2.1 b = τ.2.1 b := xupd_ne h
theorem vL_22 (τ : XS) (a : Nat) (f : Nat → Int64) : (uL τ a f).2.2 = τ.2.2 := rfl
theorem vP_1 (τ : XS) (a : Nat) (f : Nat → Option Nat) : (uP τ a f).1 = τ.1 := rfl
theorem vP_21 (τ : XS) (a : Nat) (f : Nat → Option Nat) : (uP τ a f).2.1 = τ.2.1 := rfl
theorem vP_eq (τ : XS) (a : Nat) (f : Nat → Option Nat) : (uP τ a f).2.2 a = f := xupd_eq
theorem vP_ne (τ : XS) {a b : Nat} (f : Nat → Option Nat) (h : b ≠ a) : (uP τ a f).2.2 b = τ.2.2 b := xupd_ne h
theorem uA_uA (τ : XS) (a : Nat) (f g : Nat → Int32) : uA (uA τ a f) a g = uA τ a g := by simp only [uA, xupd_xupd]
theorem uL_uL (τ : XS) (a : Nat) (f g : Nat → Int64) : uL (uL τ a f) a g = uL τ a g := by simp only [uL, xupd_xupd]
theorem uP_uP (τ : XS) (a : Nat) (f g : Nat → Option Nat) : uP (uP τ a f) a g = uP τ a g := by simp only [uP, xupd_xupd]
theorem uA_sw (τ : XS) {a b : Nat} (f g : Nat → Int32) (h : b < a) : uA (uA τ a f) b g = uA (uA τ b g) a f := by simp only [uA, xupd_sw _ _ _ h]
theorem uL_sw (τ : XS) {a b : Nat} (f g : Nat → Int64) (h : b < a) : uL (uL τ a f) b g = uL (uL τ b g) a f := by simp only [uL, xupd_sw _ _ _ h]
theorem uP_sw (τ : XS) {a b : Nat} (f g : Nat → Option Nat) (h : b < a) : uP (uP τ a f) b g = uP (uP τ b g) a f := by simp only [uP, xupd_sw _ _ _ h]
theorem uA_sx (τ : XS) {a b : Nat} (f g : Nat → Int32) (h : b < a) : uA (uA τ a f) b g = uA (uA τ b g) a (id f) := uA_sw τ f g h
theorem uL_sx (τ : XS) {a b : Nat} (f g : Nat → Int64) (h : b < a) : uL (uL τ a f) b g = uL (uL τ b g) a (id f) := uL_sw τ f g h
theorem uP_sx (τ : XS) {a b : Nat} (f g : Nat → Option Nat) (h : b < a) : uP (uP τ a f) b g = uP (uP τ b g) a (id f) := uP_sw τ f g h
theorem uA_uL (τ : XS) (a b : Nat) (f : Nat → Int64) (g : Nat → Int32) : uA (uL τ a f) b g = uL (uA τ b g) a f := rfl
theorem uA_uP (τ : XS) (a b : Nat) (f : Nat → Option Nat) (g : Nat → Int32) : uA (uP τ a f) b g = uP (uA τ b g) a f := rfl
theorem uL_uP (τ : XS) (a b : Nat) (f : Nat → Option Nat) (g : Nat → Int64) : uL (uP τ a f) b g = uP (uL τ b g) a f := rfl
theorem uA_id2 (τ : XS) (a : Nat) {f : Nat → Int32} (h : τ.1 a = f) : uA τ a f = τ := by rw [← h]; simp only [uA, xupd_id]
theorem uL_id2 (τ : XS) (a : Nat) {f : Nat → Int64} (h : τ.2.1 a = f) : uL τ a f = τ := by rw [← h]; simp only [uL, xupd_id]
theorem uP_id2 (τ : XS) (a : Nat) {f : Nat → Option Nat} (h : τ.2.2 a = f) : uP τ a f = τ := by rw [← h]; simp only [uP, xupd_id]
/-- nothing but these has changed -/
def xf (as : List Nat) (τ τ' : XS) : Prop := ∀ a, a ∉ as → τ'.1 a = τ.1 a ∧ τ'.2.1 a = τ.2.1 a ∧ τ'.2.2 a = τ.2.2 a
theorem xf_refl (as : List Nat) (τ : XS) : xf as τ τ := fun _ _ => ⟨rfl, rfl, rfl⟩
theorem xf_tr {as bs cs : List Nat} {τ τ' τ2 : XS} (h1 : xf as τ τ') (h2 : xf bs τ' τ2) (ha : ∀ a, a ∈ as → a ∈ cs) (hb : ∀ a, a ∈ bs → a ∈ cs) : xf cs τ τ2 := fun a hn => by
  obtain ⟨x, y, z⟩ := h1 a (fun w => hn (ha a w))
  obtain ⟨x2, y2, z2⟩ := h2 a (fun w => hn (hb a w))
  exact ⟨x2.trans x, y2.trans y, z2.trans z⟩
theorem xf_A {as : List Nat} {τ τ' : XS} {a : Nat} {f : Nat → Int32} (h : xf as τ τ') (ha : a ∈ as) : xf as τ (uA τ' a f) := fun b hb => by
  obtain ⟨x, y, z⟩ := h b hb
  exact ⟨(vA_ne _ _ (fun w => hb (by rw [w]; exact ha))).trans x, y, z⟩
theorem xf_L {as : List Nat} {τ τ' : XS} {a : Nat} {f : Nat → Int64} (h : xf as τ τ') (ha : a ∈ as) : xf as τ (uL τ' a f) := fun b hb => by
  obtain ⟨x, y, z⟩ := h b hb
  exact ⟨x, (vL_ne _ _ (fun w => hb (by rw [w]; exact ha))).trans y, z⟩
theorem xf_P {as : List Nat} {τ τ' : XS} {a : Nat} {f : Nat → Option Nat} (h : xf as τ τ') (ha : a ∈ as) : xf as τ (uP τ' a f) := fun b hb => by
  obtain ⟨x, y, z⟩ := h b hb
  exact ⟨x, y, (vP_ne _ _ (fun w => hb (by rw [w]; exact ha))).trans z⟩
