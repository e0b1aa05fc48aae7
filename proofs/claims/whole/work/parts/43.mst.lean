/-! the reference's state: fields' ints by their slots, the long, rows of ints (by address), rows of longs -/
def bI (b : Bool) : Int32 := if b = true then 1 else 0
abbrev MS : Type := (Nat → Int32) × Int64 × (Nat → Nat → Int32) × (Nat → Nat → Int64)
def mfs (σ : MS) : List Value := [.int (σ.1 0), .int (σ.1 1), .ref 163, .ref 164, .ref 165, .ref 166, .int (σ.1 6), .ref 167, .ref 168, .ref 169, .ref 170, .ref 171, .int (σ.1 12), .ref 172, .int (σ.1 14), .ref 173, .ref 174, .ref 175, .ref 176, .ref 177, .int (σ.1 20), .ref 178, .ref 179, .int (σ.1 23), .int (σ.1 24), .int (σ.1 25), .int (σ.1 26), .long σ.2.1, .int (σ.1 28), .int (σ.1 29), .ref 180, .ref 181, .int (σ.1 32), .int (σ.1 33), .ref 182, .ref 183, .ref 184, .int (σ.1 37), .int (σ.1 38), .int (σ.1 39), .ref 185, .ref 186, .ref 187, .ref 188, .int (σ.1 44), .int (σ.1 45), .ref 189, .int (σ.1 47), .ref 190, .ref 191, .int (σ.1 50)]
def mcell (σ : MS) (a : Nat) : Option AC := match a with
  | 162 => some (.inr (11, mfs σ))
  | 163 => some (.inl (.int, 7, .inl (σ.2.2.1 163)))
  | 164 => some (.inl (.int, 439, .inl (σ.2.2.1 164)))
  | 165 => some (.inl (.int, 4390, .inl (σ.2.2.1 165)))
  | 166 => some (.inl (.int, 10, .inl (σ.2.2.1 166)))
  | 167 => some (.inl (.int, 878, .inl (σ.2.2.1 167)))
  | 168 => some (.inl (.boolean, 2, .inl (σ.2.2.1 168)))
  | 169 => some (.inl (.int, 9, .inl (σ.2.2.1 169)))
  | 170 => some (.inl (.int, 72, .inl (σ.2.2.1 170)))
  | 171 => some (.inl (.int, 576, .inl (σ.2.2.1 171)))
  | 172 => some (.inl (.int, 3, .inl (σ.2.2.1 172)))
  | 173 => some (.inl (.int, 6, .inl (σ.2.2.1 173)))
  | 174 => some (.inl (.int, 192, .inl (σ.2.2.1 174)))
  | 175 => some (.inl (.int, 8, .inl (σ.2.2.1 175)))
  | 176 => some (.inl (.int, 3, .inl (σ.2.2.1 176)))
  | 177 => some (.inl (.int, 6, .inl (σ.2.2.1 177)))
  | 178 => some (.inl (.int, 8, .inl (σ.2.2.1 178)))
  | 179 => some (.inl (.int, 400, .inl (σ.2.2.1 179)))
  | 180 => some (.inl (.long, 6, .inr (.inl (σ.2.2.2 180))))
  | 181 => some (.inl (.int, 24, .inl (σ.2.2.1 181)))
  | 182 => some (.inl (.int, 24, .inl (σ.2.2.1 182)))
  | 183 => some (.inl (.int, 3, .inl (σ.2.2.1 183)))
  | 184 => some (.inl (.int, 24, .inl (σ.2.2.1 184)))
  | 185 => some (.inl (.long, 576, .inr (.inl (σ.2.2.2 185))))
  | 186 => some (.inl (.boolean, 24, .inl (σ.2.2.1 186)))
  | 187 => some (.inl (.long, 24, .inr (.inl (σ.2.2.2 187))))
  | 188 => some (.inl (.int, 24, .inl (σ.2.2.1 188)))
  | 189 => some (.inl (.int, 600, .inl (σ.2.2.1 189)))
  | 190 => some (.inl (.int, 72, .inl (σ.2.2.1 190)))
  | 191 => some (.inl (.int, 600, .inl (σ.2.2.1 191)))
  | _ => none
def mk (h : AH) (σ : MS) : AH := (h.1, fun a => if 162 ≤ a ∧ a ≤ 191 then mcell σ a else h.2 a)
def sF (σ : MS) (k : Nat) (x : Int32) : MS := (xupd σ.1 k x, σ.2)
def sW (σ : MS) (x : Int64) : MS := (σ.1, x, σ.2.2)
def sA (σ : MS) (a : Nat) (f : Nat → Int32) : MS := (σ.1, σ.2.1, xupd σ.2.2.1 a f, σ.2.2.2)
def sL (σ : MS) (a : Nat) (f : Nat → Int64) : MS := (σ.1, σ.2.1, σ.2.2.1, xupd σ.2.2.2 a f)
theorem mk_put {h : AH} {σ σ' : MS} {a : Nat} {c : AC} (ha : 162 ≤ a ∧ a ≤ 191) (h1 : mcell σ' a = some c) (h2 : ∀ b, b ≠ a → mcell σ' b = mcell σ b) : xput (mk h σ) a c = mk h σ' := by
  refine Prod.ext rfl (funext fun b => ?_)
  show (if b = a then some c else if 162 ≤ b ∧ b ≤ 191 then mcell σ b else h.2 b) = if 162 ≤ b ∧ b ≤ 191 then mcell σ' b else h.2 b
  by_cases e : b = a
  · subst e
    rw [if_pos rfl, if_pos ha, h1]
  · rw [if_neg e, h2 b e]
theorem mk_2 (h : AH) (σ : MS) {a : Nat} (ha : 162 ≤ a ∧ a ≤ 191) : (mk h σ).2 a = mcell σ a := if_pos ha
theorem mk_o (h : AH) (σ : MS) {a : Nat} (ha : ¬ (162 ≤ a ∧ a ≤ 191)) : (mk h σ).2 a = h.2 a := if_neg ha
theorem mcell_sF (σ : MS) (k : Nat) (x : Int32) {b : Nat} (hb : b ≠ 162) : mcell (sF σ k x) b = mcell σ b := by
  unfold mcell
  split <;> first | rfl | exact absurd rfl hb
theorem mcell_sW (σ : MS) (x : Int64) {b : Nat} (hb : b ≠ 162) : mcell (sW σ x) b = mcell σ b := by
  unfold mcell
  split <;> first | rfl | exact absurd rfl hb
theorem xupd_ne {α : Type} {f : Nat → α} {a b : Nat} {x : α} (h : b ≠ a) : xupd f a x b = f b := if_neg h
theorem xupd_eq {α : Type} {f : Nat → α} {a : Nat} {x : α} : xupd f a x a = x := if_pos rfl
theorem mcell_sA (σ : MS) (a : Nat) (f : Nat → Int32) {b : Nat} (hb : b ≠ a) : mcell (sA σ a f) b = mcell σ b := by
  unfold mcell
  split <;> first | rfl | (show some (Sum.inl (_, _, Sum.inl (xupd σ.2.2.1 a f _))) = _; rw [xupd_ne hb])
theorem mcell_sL (σ : MS) (a : Nat) (f : Nat → Int64) {b : Nat} (hb : b ≠ a) : mcell (sL σ a f) b = mcell σ b := by
  unfold mcell
  split <;> first | rfl | (show some (Sum.inl (_, _, Sum.inr (Sum.inl (xupd σ.2.2.2 a f _)))) = _; rw [xupd_ne hb])
theorem mg0 (h : AH) (σ : MS) : fGetC 11 0 1 (mk h σ) (.ref 162) = some (.int (σ.1 0)) := rfl
theorem mp0 (h : AH) (σ : MS) (x : Int32) : fPut 11 0 .int (mk h σ) (.ref 162) (.int x) = some (mk h (sF σ 0 x)) := congrArg some (mk_put (σ' := sF σ 0 x) (by decide) rfl (fun b hb => mcell_sF σ 0 x hb))
theorem mg1 (h : AH) (σ : MS) : fGetC 11 1 1 (mk h σ) (.ref 162) = some (.int (σ.1 1)) := rfl
theorem mp1 (h : AH) (σ : MS) (x : Int32) : fPut 11 1 .int (mk h σ) (.ref 162) (.int x) = some (mk h (sF σ 1 x)) := congrArg some (mk_put (σ' := sF σ 1 x) (by decide) rfl (fun b hb => mcell_sF σ 1 x hb))
theorem mg2 (h : AH) (σ : MS) : fGetC 11 2 1 (mk h σ) (.ref 162) = some (.ref 163) := rfl
theorem mg3 (h : AH) (σ : MS) : fGetC 11 3 1 (mk h σ) (.ref 162) = some (.ref 164) := rfl
theorem mg4 (h : AH) (σ : MS) : fGetC 11 4 1 (mk h σ) (.ref 162) = some (.ref 165) := rfl
theorem mg5 (h : AH) (σ : MS) : fGetC 11 5 1 (mk h σ) (.ref 162) = some (.ref 166) := rfl
theorem mg6 (h : AH) (σ : MS) : fGetC 11 6 1 (mk h σ) (.ref 162) = some (.int (σ.1 6)) := rfl
theorem mp6 (h : AH) (σ : MS) (x : Int32) : fPut 11 6 .int (mk h σ) (.ref 162) (.int x) = some (mk h (sF σ 6 x)) := congrArg some (mk_put (σ' := sF σ 6 x) (by decide) rfl (fun b hb => mcell_sF σ 6 x hb))
theorem mg7 (h : AH) (σ : MS) : fGetC 11 7 1 (mk h σ) (.ref 162) = some (.ref 167) := rfl
theorem mg8 (h : AH) (σ : MS) : fGetC 11 8 1 (mk h σ) (.ref 162) = some (.ref 168) := rfl
theorem mg9 (h : AH) (σ : MS) : fGetC 11 9 1 (mk h σ) (.ref 162) = some (.ref 169) := rfl
theorem mg10 (h : AH) (σ : MS) : fGetC 11 10 1 (mk h σ) (.ref 162) = some (.ref 170) := rfl
theorem mg11 (h : AH) (σ : MS) : fGetC 11 11 1 (mk h σ) (.ref 162) = some (.ref 171) := rfl
theorem mg12 (h : AH) (σ : MS) : fGetC 11 12 1 (mk h σ) (.ref 162) = some (.int (σ.1 12)) := rfl
theorem mp12 (h : AH) (σ : MS) (x : Int32) : fPut 11 12 .int (mk h σ) (.ref 162) (.int x) = some (mk h (sF σ 12 x)) := congrArg some (mk_put (σ' := sF σ 12 x) (by decide) rfl (fun b hb => mcell_sF σ 12 x hb))
theorem mg13 (h : AH) (σ : MS) : fGetC 11 13 1 (mk h σ) (.ref 162) = some (.ref 172) := rfl
theorem mg14 (h : AH) (σ : MS) : fGetC 11 14 1 (mk h σ) (.ref 162) = some (.int (σ.1 14)) := rfl
theorem mp14 (h : AH) (σ : MS) (x : Int32) : fPut 11 14 .int (mk h σ) (.ref 162) (.int x) = some (mk h (sF σ 14 x)) := congrArg some (mk_put (σ' := sF σ 14 x) (by decide) rfl (fun b hb => mcell_sF σ 14 x hb))
theorem mg15 (h : AH) (σ : MS) : fGetC 11 15 1 (mk h σ) (.ref 162) = some (.ref 173) := rfl
theorem mg16 (h : AH) (σ : MS) : fGetC 11 16 1 (mk h σ) (.ref 162) = some (.ref 174) := rfl
theorem mg17 (h : AH) (σ : MS) : fGetC 11 17 1 (mk h σ) (.ref 162) = some (.ref 175) := rfl
theorem mg18 (h : AH) (σ : MS) : fGetC 11 18 1 (mk h σ) (.ref 162) = some (.ref 176) := rfl
theorem mg19 (h : AH) (σ : MS) : fGetC 11 19 1 (mk h σ) (.ref 162) = some (.ref 177) := rfl
theorem mg20 (h : AH) (σ : MS) : fGetC 11 20 1 (mk h σ) (.ref 162) = some (.int (σ.1 20)) := rfl
theorem mp20 (h : AH) (σ : MS) (x : Int32) : fPut 11 20 .int (mk h σ) (.ref 162) (.int x) = some (mk h (sF σ 20 x)) := congrArg some (mk_put (σ' := sF σ 20 x) (by decide) rfl (fun b hb => mcell_sF σ 20 x hb))
theorem mg21 (h : AH) (σ : MS) : fGetC 11 21 1 (mk h σ) (.ref 162) = some (.ref 178) := rfl
theorem mg22 (h : AH) (σ : MS) : fGetC 11 22 1 (mk h σ) (.ref 162) = some (.ref 179) := rfl
theorem mg23 (h : AH) (σ : MS) : fGetC 11 23 1 (mk h σ) (.ref 162) = some (.int (σ.1 23)) := rfl
theorem mp23 (h : AH) (σ : MS) (x : Int32) : fPut 11 23 .int (mk h σ) (.ref 162) (.int x) = some (mk h (sF σ 23 x)) := congrArg some (mk_put (σ' := sF σ 23 x) (by decide) rfl (fun b hb => mcell_sF σ 23 x hb))
theorem mg24 (h : AH) (σ : MS) : fGetC 11 24 1 (mk h σ) (.ref 162) = some (.int (σ.1 24)) := rfl
theorem mp24 (h : AH) (σ : MS) (x : Int32) : fPut 11 24 .int (mk h σ) (.ref 162) (.int x) = some (mk h (sF σ 24 x)) := congrArg some (mk_put (σ' := sF σ 24 x) (by decide) rfl (fun b hb => mcell_sF σ 24 x hb))
theorem mg25 (h : AH) (σ : MS) : fGetC 11 25 1 (mk h σ) (.ref 162) = some (.int (σ.1 25)) := rfl
theorem mp25 (h : AH) (σ : MS) (x : Int32) : fPut 11 25 .int (mk h σ) (.ref 162) (.int x) = some (mk h (sF σ 25 x)) := congrArg some (mk_put (σ' := sF σ 25 x) (by decide) rfl (fun b hb => mcell_sF σ 25 x hb))
theorem mg26 (h : AH) (σ : MS) : fGetC 11 26 1 (mk h σ) (.ref 162) = some (.int (σ.1 26)) := rfl
theorem mp26 (h : AH) (σ : MS) (x : Int32) : fPut 11 26 .int (mk h σ) (.ref 162) (.int x) = some (mk h (sF σ 26 x)) := congrArg some (mk_put (σ' := sF σ 26 x) (by decide) rfl (fun b hb => mcell_sF σ 26 x hb))
theorem mg27 (h : AH) (σ : MS) : fGetC 11 27 2 (mk h σ) (.ref 162) = some (.long σ.2.1) := rfl
theorem mp27 (h : AH) (σ : MS) (x : Int64) : fPut 11 27 .long (mk h σ) (.ref 162) (.long x) = some (mk h (sW σ x)) := congrArg some (mk_put (σ' := sW σ x) (by decide) rfl (fun b hb => mcell_sW σ x hb))
theorem mg28 (h : AH) (σ : MS) : fGetC 11 28 1 (mk h σ) (.ref 162) = some (.int (σ.1 28)) := rfl
theorem mp28 (h : AH) (σ : MS) (x : Int32) : fPut 11 28 .int (mk h σ) (.ref 162) (.int x) = some (mk h (sF σ 28 x)) := congrArg some (mk_put (σ' := sF σ 28 x) (by decide) rfl (fun b hb => mcell_sF σ 28 x hb))
theorem mg29 (h : AH) (σ : MS) : fGetC 11 29 1 (mk h σ) (.ref 162) = some (.int (σ.1 29)) := rfl
theorem mp29 (h : AH) (σ : MS) (x : Int32) (hx : xfit .boolean (.int x) = true) : fPut 11 29 .boolean (mk h σ) (.ref 162) (.int x) = some (mk h (sF σ 29 x)) := by
  have e : fPut 11 29 .boolean (mk h σ) (.ref 162) (.int x) = if 11 = 11 ∧ 29 < (mfs σ).length ∧ xfit .boolean (.int x) = true then some (xput (mk h σ) 162 (.inr (11, (mfs σ).set 29 (.int x)))) else none := rfl
  rw [e, if_pos ⟨rfl, by simp [mfs], hx⟩]
  exact congrArg some (mk_put (σ' := sF σ 29 x) (by decide) rfl (fun b hb => mcell_sF σ 29 x hb))
theorem mg30 (h : AH) (σ : MS) : fGetC 11 30 1 (mk h σ) (.ref 162) = some (.ref 180) := rfl
theorem mg31 (h : AH) (σ : MS) : fGetC 11 31 1 (mk h σ) (.ref 162) = some (.ref 181) := rfl
theorem mg32 (h : AH) (σ : MS) : fGetC 11 32 1 (mk h σ) (.ref 162) = some (.int (σ.1 32)) := rfl
theorem mp32 (h : AH) (σ : MS) (x : Int32) : fPut 11 32 .int (mk h σ) (.ref 162) (.int x) = some (mk h (sF σ 32 x)) := congrArg some (mk_put (σ' := sF σ 32 x) (by decide) rfl (fun b hb => mcell_sF σ 32 x hb))
theorem mg33 (h : AH) (σ : MS) : fGetC 11 33 1 (mk h σ) (.ref 162) = some (.int (σ.1 33)) := rfl
theorem mp33 (h : AH) (σ : MS) (x : Int32) : fPut 11 33 .int (mk h σ) (.ref 162) (.int x) = some (mk h (sF σ 33 x)) := congrArg some (mk_put (σ' := sF σ 33 x) (by decide) rfl (fun b hb => mcell_sF σ 33 x hb))
theorem mg34 (h : AH) (σ : MS) : fGetC 11 34 1 (mk h σ) (.ref 162) = some (.ref 182) := rfl
theorem mg35 (h : AH) (σ : MS) : fGetC 11 35 1 (mk h σ) (.ref 162) = some (.ref 183) := rfl
theorem mg36 (h : AH) (σ : MS) : fGetC 11 36 1 (mk h σ) (.ref 162) = some (.ref 184) := rfl
theorem mg37 (h : AH) (σ : MS) : fGetC 11 37 1 (mk h σ) (.ref 162) = some (.int (σ.1 37)) := rfl
theorem mp37 (h : AH) (σ : MS) (x : Int32) : fPut 11 37 .int (mk h σ) (.ref 162) (.int x) = some (mk h (sF σ 37 x)) := congrArg some (mk_put (σ' := sF σ 37 x) (by decide) rfl (fun b hb => mcell_sF σ 37 x hb))
theorem mg38 (h : AH) (σ : MS) : fGetC 11 38 1 (mk h σ) (.ref 162) = some (.int (σ.1 38)) := rfl
theorem mp38 (h : AH) (σ : MS) (x : Int32) : fPut 11 38 .int (mk h σ) (.ref 162) (.int x) = some (mk h (sF σ 38 x)) := congrArg some (mk_put (σ' := sF σ 38 x) (by decide) rfl (fun b hb => mcell_sF σ 38 x hb))
theorem mg39 (h : AH) (σ : MS) : fGetC 11 39 1 (mk h σ) (.ref 162) = some (.int (σ.1 39)) := rfl
theorem mp39 (h : AH) (σ : MS) (x : Int32) : fPut 11 39 .int (mk h σ) (.ref 162) (.int x) = some (mk h (sF σ 39 x)) := congrArg some (mk_put (σ' := sF σ 39 x) (by decide) rfl (fun b hb => mcell_sF σ 39 x hb))
theorem mg40 (h : AH) (σ : MS) : fGetC 11 40 1 (mk h σ) (.ref 162) = some (.ref 185) := rfl
theorem mg41 (h : AH) (σ : MS) : fGetC 11 41 1 (mk h σ) (.ref 162) = some (.ref 186) := rfl
theorem mg42 (h : AH) (σ : MS) : fGetC 11 42 1 (mk h σ) (.ref 162) = some (.ref 187) := rfl
theorem mg43 (h : AH) (σ : MS) : fGetC 11 43 1 (mk h σ) (.ref 162) = some (.ref 188) := rfl
theorem mg44 (h : AH) (σ : MS) : fGetC 11 44 1 (mk h σ) (.ref 162) = some (.int (σ.1 44)) := rfl
theorem mp44 (h : AH) (σ : MS) (x : Int32) : fPut 11 44 .int (mk h σ) (.ref 162) (.int x) = some (mk h (sF σ 44 x)) := congrArg some (mk_put (σ' := sF σ 44 x) (by decide) rfl (fun b hb => mcell_sF σ 44 x hb))
theorem mg45 (h : AH) (σ : MS) : fGetC 11 45 1 (mk h σ) (.ref 162) = some (.int (σ.1 45)) := rfl
theorem mp45 (h : AH) (σ : MS) (x : Int32) : fPut 11 45 .int (mk h σ) (.ref 162) (.int x) = some (mk h (sF σ 45 x)) := congrArg some (mk_put (σ' := sF σ 45 x) (by decide) rfl (fun b hb => mcell_sF σ 45 x hb))
theorem mg46 (h : AH) (σ : MS) : fGetC 11 46 1 (mk h σ) (.ref 162) = some (.ref 189) := rfl
theorem mg47 (h : AH) (σ : MS) : fGetC 11 47 1 (mk h σ) (.ref 162) = some (.int (σ.1 47)) := rfl
theorem mp47 (h : AH) (σ : MS) (x : Int32) : fPut 11 47 .int (mk h σ) (.ref 162) (.int x) = some (mk h (sF σ 47 x)) := congrArg some (mk_put (σ' := sF σ 47 x) (by decide) rfl (fun b hb => mcell_sF σ 47 x hb))
theorem mg48 (h : AH) (σ : MS) : fGetC 11 48 1 (mk h σ) (.ref 162) = some (.ref 190) := rfl
theorem mg49 (h : AH) (σ : MS) : fGetC 11 49 1 (mk h σ) (.ref 162) = some (.ref 191) := rfl
theorem mg50 (h : AH) (σ : MS) : fGetC 11 50 1 (mk h σ) (.ref 162) = some (.int (σ.1 50)) := rfl
theorem mp50 (h : AH) (σ : MS) (x : Int32) : fPut 11 50 .int (mk h σ) (.ref 162) (.int x) = some (mk h (sF σ 50 x)) := congrArg some (mk_put (σ' := sF σ 50 x) (by decide) rfl (fun b hb => mcell_sF σ 50 x hb))
theorem ma163 (h : AH) (σ : MS) (i : Int32) : fIald (mk h σ) (.ref 163) (.int i) = if xinb i 7 = true then some (.int (σ.2.2.1 163 i.toNatClampNeg)) else none := rfl
theorem mt163 (h : AH) (σ : MS) (i x : Int32) : fIast (mk h σ) (.ref 163) (.int i) (.int x) = if xinb i 7 = true then some (mk h (sA σ 163 (xupd (σ.2.2.1 163) i.toNatClampNeg x))) else none := by
  have e : fIast (mk h σ) (.ref 163) (.int i) (.int x) = if xinb i 7 = true then some (xput (mk h σ) 163 (.inl (.int, 7, .inl (xupd (σ.2.2.1 163) i.toNatClampNeg x)))) else none := rfl
  rw [e, mk_put (σ' := sA σ 163 (xupd (σ.2.2.1 163) i.toNatClampNeg x)) (by decide) (by simp [mcell, sA, xupd]) (fun b hb => mcell_sA σ 163 _ hb)]
theorem ma164 (h : AH) (σ : MS) (i : Int32) : fIald (mk h σ) (.ref 164) (.int i) = if xinb i 439 = true then some (.int (σ.2.2.1 164 i.toNatClampNeg)) else none := rfl
theorem mt164 (h : AH) (σ : MS) (i x : Int32) : fIast (mk h σ) (.ref 164) (.int i) (.int x) = if xinb i 439 = true then some (mk h (sA σ 164 (xupd (σ.2.2.1 164) i.toNatClampNeg x))) else none := by
  have e : fIast (mk h σ) (.ref 164) (.int i) (.int x) = if xinb i 439 = true then some (xput (mk h σ) 164 (.inl (.int, 439, .inl (xupd (σ.2.2.1 164) i.toNatClampNeg x)))) else none := rfl
  rw [e, mk_put (σ' := sA σ 164 (xupd (σ.2.2.1 164) i.toNatClampNeg x)) (by decide) (by simp [mcell, sA, xupd]) (fun b hb => mcell_sA σ 164 _ hb)]
theorem ma165 (h : AH) (σ : MS) (i : Int32) : fIald (mk h σ) (.ref 165) (.int i) = if xinb i 4390 = true then some (.int (σ.2.2.1 165 i.toNatClampNeg)) else none := rfl
theorem mt165 (h : AH) (σ : MS) (i x : Int32) : fIast (mk h σ) (.ref 165) (.int i) (.int x) = if xinb i 4390 = true then some (mk h (sA σ 165 (xupd (σ.2.2.1 165) i.toNatClampNeg x))) else none := by
  have e : fIast (mk h σ) (.ref 165) (.int i) (.int x) = if xinb i 4390 = true then some (xput (mk h σ) 165 (.inl (.int, 4390, .inl (xupd (σ.2.2.1 165) i.toNatClampNeg x)))) else none := rfl
  rw [e, mk_put (σ' := sA σ 165 (xupd (σ.2.2.1 165) i.toNatClampNeg x)) (by decide) (by simp [mcell, sA, xupd]) (fun b hb => mcell_sA σ 165 _ hb)]
theorem ma166 (h : AH) (σ : MS) (i : Int32) : fIald (mk h σ) (.ref 166) (.int i) = if xinb i 10 = true then some (.int (σ.2.2.1 166 i.toNatClampNeg)) else none := rfl
theorem mt166 (h : AH) (σ : MS) (i x : Int32) : fIast (mk h σ) (.ref 166) (.int i) (.int x) = if xinb i 10 = true then some (mk h (sA σ 166 (xupd (σ.2.2.1 166) i.toNatClampNeg x))) else none := by
  have e : fIast (mk h σ) (.ref 166) (.int i) (.int x) = if xinb i 10 = true then some (xput (mk h σ) 166 (.inl (.int, 10, .inl (xupd (σ.2.2.1 166) i.toNatClampNeg x)))) else none := rfl
  rw [e, mk_put (σ' := sA σ 166 (xupd (σ.2.2.1 166) i.toNatClampNeg x)) (by decide) (by simp [mcell, sA, xupd]) (fun b hb => mcell_sA σ 166 _ hb)]
theorem ma167 (h : AH) (σ : MS) (i : Int32) : fIald (mk h σ) (.ref 167) (.int i) = if xinb i 878 = true then some (.int (σ.2.2.1 167 i.toNatClampNeg)) else none := rfl
theorem mt167 (h : AH) (σ : MS) (i x : Int32) : fIast (mk h σ) (.ref 167) (.int i) (.int x) = if xinb i 878 = true then some (mk h (sA σ 167 (xupd (σ.2.2.1 167) i.toNatClampNeg x))) else none := by
  have e : fIast (mk h σ) (.ref 167) (.int i) (.int x) = if xinb i 878 = true then some (xput (mk h σ) 167 (.inl (.int, 878, .inl (xupd (σ.2.2.1 167) i.toNatClampNeg x)))) else none := rfl
  rw [e, mk_put (σ' := sA σ 167 (xupd (σ.2.2.1 167) i.toNatClampNeg x)) (by decide) (by simp [mcell, sA, xupd]) (fun b hb => mcell_sA σ 167 _ hb)]
theorem ma168 (h : AH) (σ : MS) (i : Int32) : fZald (mk h σ) (.ref 168) (.int i) = if xinb i 2 = true then some (.int (σ.2.2.1 168 i.toNatClampNeg)) else none := rfl
theorem mt168 (h : AH) (σ : MS) (i x : Int32) : fZast (mk h σ) (.ref 168) (.int i) (.int x) = if xinb i 2 = true ∧ xfit .boolean (.int x) = true then some (mk h (sA σ 168 (xupd (σ.2.2.1 168) i.toNatClampNeg x))) else none := by
  have e : fZast (mk h σ) (.ref 168) (.int i) (.int x) = if xinb i 2 = true ∧ xfit .boolean (.int x) = true then some (xput (mk h σ) 168 (.inl (.boolean, 2, .inl (xupd (σ.2.2.1 168) i.toNatClampNeg x)))) else none := rfl
  rw [e, mk_put (σ' := sA σ 168 (xupd (σ.2.2.1 168) i.toNatClampNeg x)) (by decide) (by simp [mcell, sA, xupd]) (fun b hb => mcell_sA σ 168 _ hb)]
theorem ma169 (h : AH) (σ : MS) (i : Int32) : fIald (mk h σ) (.ref 169) (.int i) = if xinb i 9 = true then some (.int (σ.2.2.1 169 i.toNatClampNeg)) else none := rfl
theorem mt169 (h : AH) (σ : MS) (i x : Int32) : fIast (mk h σ) (.ref 169) (.int i) (.int x) = if xinb i 9 = true then some (mk h (sA σ 169 (xupd (σ.2.2.1 169) i.toNatClampNeg x))) else none := by
  have e : fIast (mk h σ) (.ref 169) (.int i) (.int x) = if xinb i 9 = true then some (xput (mk h σ) 169 (.inl (.int, 9, .inl (xupd (σ.2.2.1 169) i.toNatClampNeg x)))) else none := rfl
  rw [e, mk_put (σ' := sA σ 169 (xupd (σ.2.2.1 169) i.toNatClampNeg x)) (by decide) (by simp [mcell, sA, xupd]) (fun b hb => mcell_sA σ 169 _ hb)]
theorem ma170 (h : AH) (σ : MS) (i : Int32) : fIald (mk h σ) (.ref 170) (.int i) = if xinb i 72 = true then some (.int (σ.2.2.1 170 i.toNatClampNeg)) else none := rfl
theorem mt170 (h : AH) (σ : MS) (i x : Int32) : fIast (mk h σ) (.ref 170) (.int i) (.int x) = if xinb i 72 = true then some (mk h (sA σ 170 (xupd (σ.2.2.1 170) i.toNatClampNeg x))) else none := by
  have e : fIast (mk h σ) (.ref 170) (.int i) (.int x) = if xinb i 72 = true then some (xput (mk h σ) 170 (.inl (.int, 72, .inl (xupd (σ.2.2.1 170) i.toNatClampNeg x)))) else none := rfl
  rw [e, mk_put (σ' := sA σ 170 (xupd (σ.2.2.1 170) i.toNatClampNeg x)) (by decide) (by simp [mcell, sA, xupd]) (fun b hb => mcell_sA σ 170 _ hb)]
theorem ma171 (h : AH) (σ : MS) (i : Int32) : fIald (mk h σ) (.ref 171) (.int i) = if xinb i 576 = true then some (.int (σ.2.2.1 171 i.toNatClampNeg)) else none := rfl
theorem mt171 (h : AH) (σ : MS) (i x : Int32) : fIast (mk h σ) (.ref 171) (.int i) (.int x) = if xinb i 576 = true then some (mk h (sA σ 171 (xupd (σ.2.2.1 171) i.toNatClampNeg x))) else none := by
  have e : fIast (mk h σ) (.ref 171) (.int i) (.int x) = if xinb i 576 = true then some (xput (mk h σ) 171 (.inl (.int, 576, .inl (xupd (σ.2.2.1 171) i.toNatClampNeg x)))) else none := rfl
  rw [e, mk_put (σ' := sA σ 171 (xupd (σ.2.2.1 171) i.toNatClampNeg x)) (by decide) (by simp [mcell, sA, xupd]) (fun b hb => mcell_sA σ 171 _ hb)]
theorem ma172 (h : AH) (σ : MS) (i : Int32) : fIald (mk h σ) (.ref 172) (.int i) = if xinb i 3 = true then some (.int (σ.2.2.1 172 i.toNatClampNeg)) else none := rfl
theorem mt172 (h : AH) (σ : MS) (i x : Int32) : fIast (mk h σ) (.ref 172) (.int i) (.int x) = if xinb i 3 = true then some (mk h (sA σ 172 (xupd (σ.2.2.1 172) i.toNatClampNeg x))) else none := by
  have e : fIast (mk h σ) (.ref 172) (.int i) (.int x) = if xinb i 3 = true then some (xput (mk h σ) 172 (.inl (.int, 3, .inl (xupd (σ.2.2.1 172) i.toNatClampNeg x)))) else none := rfl
  rw [e, mk_put (σ' := sA σ 172 (xupd (σ.2.2.1 172) i.toNatClampNeg x)) (by decide) (by simp [mcell, sA, xupd]) (fun b hb => mcell_sA σ 172 _ hb)]
theorem ma173 (h : AH) (σ : MS) (i : Int32) : fIald (mk h σ) (.ref 173) (.int i) = if xinb i 6 = true then some (.int (σ.2.2.1 173 i.toNatClampNeg)) else none := rfl
theorem mt173 (h : AH) (σ : MS) (i x : Int32) : fIast (mk h σ) (.ref 173) (.int i) (.int x) = if xinb i 6 = true then some (mk h (sA σ 173 (xupd (σ.2.2.1 173) i.toNatClampNeg x))) else none := by
  have e : fIast (mk h σ) (.ref 173) (.int i) (.int x) = if xinb i 6 = true then some (xput (mk h σ) 173 (.inl (.int, 6, .inl (xupd (σ.2.2.1 173) i.toNatClampNeg x)))) else none := rfl
  rw [e, mk_put (σ' := sA σ 173 (xupd (σ.2.2.1 173) i.toNatClampNeg x)) (by decide) (by simp [mcell, sA, xupd]) (fun b hb => mcell_sA σ 173 _ hb)]
theorem ma174 (h : AH) (σ : MS) (i : Int32) : fIald (mk h σ) (.ref 174) (.int i) = if xinb i 192 = true then some (.int (σ.2.2.1 174 i.toNatClampNeg)) else none := rfl
theorem mt174 (h : AH) (σ : MS) (i x : Int32) : fIast (mk h σ) (.ref 174) (.int i) (.int x) = if xinb i 192 = true then some (mk h (sA σ 174 (xupd (σ.2.2.1 174) i.toNatClampNeg x))) else none := by
  have e : fIast (mk h σ) (.ref 174) (.int i) (.int x) = if xinb i 192 = true then some (xput (mk h σ) 174 (.inl (.int, 192, .inl (xupd (σ.2.2.1 174) i.toNatClampNeg x)))) else none := rfl
  rw [e, mk_put (σ' := sA σ 174 (xupd (σ.2.2.1 174) i.toNatClampNeg x)) (by decide) (by simp [mcell, sA, xupd]) (fun b hb => mcell_sA σ 174 _ hb)]
theorem ma175 (h : AH) (σ : MS) (i : Int32) : fIald (mk h σ) (.ref 175) (.int i) = if xinb i 8 = true then some (.int (σ.2.2.1 175 i.toNatClampNeg)) else none := rfl
theorem mt175 (h : AH) (σ : MS) (i x : Int32) : fIast (mk h σ) (.ref 175) (.int i) (.int x) = if xinb i 8 = true then some (mk h (sA σ 175 (xupd (σ.2.2.1 175) i.toNatClampNeg x))) else none := by
  have e : fIast (mk h σ) (.ref 175) (.int i) (.int x) = if xinb i 8 = true then some (xput (mk h σ) 175 (.inl (.int, 8, .inl (xupd (σ.2.2.1 175) i.toNatClampNeg x)))) else none := rfl
  rw [e, mk_put (σ' := sA σ 175 (xupd (σ.2.2.1 175) i.toNatClampNeg x)) (by decide) (by simp [mcell, sA, xupd]) (fun b hb => mcell_sA σ 175 _ hb)]
theorem ma176 (h : AH) (σ : MS) (i : Int32) : fIald (mk h σ) (.ref 176) (.int i) = if xinb i 3 = true then some (.int (σ.2.2.1 176 i.toNatClampNeg)) else none := rfl
theorem mt176 (h : AH) (σ : MS) (i x : Int32) : fIast (mk h σ) (.ref 176) (.int i) (.int x) = if xinb i 3 = true then some (mk h (sA σ 176 (xupd (σ.2.2.1 176) i.toNatClampNeg x))) else none := by
  have e : fIast (mk h σ) (.ref 176) (.int i) (.int x) = if xinb i 3 = true then some (xput (mk h σ) 176 (.inl (.int, 3, .inl (xupd (σ.2.2.1 176) i.toNatClampNeg x)))) else none := rfl
  rw [e, mk_put (σ' := sA σ 176 (xupd (σ.2.2.1 176) i.toNatClampNeg x)) (by decide) (by simp [mcell, sA, xupd]) (fun b hb => mcell_sA σ 176 _ hb)]
theorem ma177 (h : AH) (σ : MS) (i : Int32) : fIald (mk h σ) (.ref 177) (.int i) = if xinb i 6 = true then some (.int (σ.2.2.1 177 i.toNatClampNeg)) else none := rfl
theorem mt177 (h : AH) (σ : MS) (i x : Int32) : fIast (mk h σ) (.ref 177) (.int i) (.int x) = if xinb i 6 = true then some (mk h (sA σ 177 (xupd (σ.2.2.1 177) i.toNatClampNeg x))) else none := by
  have e : fIast (mk h σ) (.ref 177) (.int i) (.int x) = if xinb i 6 = true then some (xput (mk h σ) 177 (.inl (.int, 6, .inl (xupd (σ.2.2.1 177) i.toNatClampNeg x)))) else none := rfl
  rw [e, mk_put (σ' := sA σ 177 (xupd (σ.2.2.1 177) i.toNatClampNeg x)) (by decide) (by simp [mcell, sA, xupd]) (fun b hb => mcell_sA σ 177 _ hb)]
theorem ma178 (h : AH) (σ : MS) (i : Int32) : fIald (mk h σ) (.ref 178) (.int i) = if xinb i 8 = true then some (.int (σ.2.2.1 178 i.toNatClampNeg)) else none := rfl
theorem mt178 (h : AH) (σ : MS) (i x : Int32) : fIast (mk h σ) (.ref 178) (.int i) (.int x) = if xinb i 8 = true then some (mk h (sA σ 178 (xupd (σ.2.2.1 178) i.toNatClampNeg x))) else none := by
  have e : fIast (mk h σ) (.ref 178) (.int i) (.int x) = if xinb i 8 = true then some (xput (mk h σ) 178 (.inl (.int, 8, .inl (xupd (σ.2.2.1 178) i.toNatClampNeg x)))) else none := rfl
  rw [e, mk_put (σ' := sA σ 178 (xupd (σ.2.2.1 178) i.toNatClampNeg x)) (by decide) (by simp [mcell, sA, xupd]) (fun b hb => mcell_sA σ 178 _ hb)]
theorem ma179 (h : AH) (σ : MS) (i : Int32) : fIald (mk h σ) (.ref 179) (.int i) = if xinb i 400 = true then some (.int (σ.2.2.1 179 i.toNatClampNeg)) else none := rfl
theorem mt179 (h : AH) (σ : MS) (i x : Int32) : fIast (mk h σ) (.ref 179) (.int i) (.int x) = if xinb i 400 = true then some (mk h (sA σ 179 (xupd (σ.2.2.1 179) i.toNatClampNeg x))) else none := by
  have e : fIast (mk h σ) (.ref 179) (.int i) (.int x) = if xinb i 400 = true then some (xput (mk h σ) 179 (.inl (.int, 400, .inl (xupd (σ.2.2.1 179) i.toNatClampNeg x)))) else none := rfl
  rw [e, mk_put (σ' := sA σ 179 (xupd (σ.2.2.1 179) i.toNatClampNeg x)) (by decide) (by simp [mcell, sA, xupd]) (fun b hb => mcell_sA σ 179 _ hb)]
theorem ma180 (h : AH) (σ : MS) (i : Int32) : fLald (mk h σ) (.ref 180) (.int i) = if xinb i 6 = true then some (.long (σ.2.2.2 180 i.toNatClampNeg)) else none := rfl
theorem mt180 (h : AH) (σ : MS) (i : Int32) (x : Int64) : fLast (mk h σ) (.ref 180) (.int i) (.long x) = if xinb i 6 = true then some (mk h (sL σ 180 (xupd (σ.2.2.2 180) i.toNatClampNeg x))) else none := by
  have e : fLast (mk h σ) (.ref 180) (.int i) (.long x) = if xinb i 6 = true then some (xput (mk h σ) 180 (.inl (.long, 6, .inr (.inl (xupd (σ.2.2.2 180) i.toNatClampNeg x))))) else none := rfl
  rw [e, mk_put (σ' := sL σ 180 (xupd (σ.2.2.2 180) i.toNatClampNeg x)) (by decide) (by simp [mcell, sL, xupd]) (fun b hb => mcell_sL σ 180 _ hb)]
theorem ma181 (h : AH) (σ : MS) (i : Int32) : fIald (mk h σ) (.ref 181) (.int i) = if xinb i 24 = true then some (.int (σ.2.2.1 181 i.toNatClampNeg)) else none := rfl
theorem mt181 (h : AH) (σ : MS) (i x : Int32) : fIast (mk h σ) (.ref 181) (.int i) (.int x) = if xinb i 24 = true then some (mk h (sA σ 181 (xupd (σ.2.2.1 181) i.toNatClampNeg x))) else none := by
  have e : fIast (mk h σ) (.ref 181) (.int i) (.int x) = if xinb i 24 = true then some (xput (mk h σ) 181 (.inl (.int, 24, .inl (xupd (σ.2.2.1 181) i.toNatClampNeg x)))) else none := rfl
  rw [e, mk_put (σ' := sA σ 181 (xupd (σ.2.2.1 181) i.toNatClampNeg x)) (by decide) (by simp [mcell, sA, xupd]) (fun b hb => mcell_sA σ 181 _ hb)]
theorem ma182 (h : AH) (σ : MS) (i : Int32) : fIald (mk h σ) (.ref 182) (.int i) = if xinb i 24 = true then some (.int (σ.2.2.1 182 i.toNatClampNeg)) else none := rfl
theorem mt182 (h : AH) (σ : MS) (i x : Int32) : fIast (mk h σ) (.ref 182) (.int i) (.int x) = if xinb i 24 = true then some (mk h (sA σ 182 (xupd (σ.2.2.1 182) i.toNatClampNeg x))) else none := by
  have e : fIast (mk h σ) (.ref 182) (.int i) (.int x) = if xinb i 24 = true then some (xput (mk h σ) 182 (.inl (.int, 24, .inl (xupd (σ.2.2.1 182) i.toNatClampNeg x)))) else none := rfl
  rw [e, mk_put (σ' := sA σ 182 (xupd (σ.2.2.1 182) i.toNatClampNeg x)) (by decide) (by simp [mcell, sA, xupd]) (fun b hb => mcell_sA σ 182 _ hb)]
theorem ma183 (h : AH) (σ : MS) (i : Int32) : fIald (mk h σ) (.ref 183) (.int i) = if xinb i 3 = true then some (.int (σ.2.2.1 183 i.toNatClampNeg)) else none := rfl
theorem mt183 (h : AH) (σ : MS) (i x : Int32) : fIast (mk h σ) (.ref 183) (.int i) (.int x) = if xinb i 3 = true then some (mk h (sA σ 183 (xupd (σ.2.2.1 183) i.toNatClampNeg x))) else none := by
  have e : fIast (mk h σ) (.ref 183) (.int i) (.int x) = if xinb i 3 = true then some (xput (mk h σ) 183 (.inl (.int, 3, .inl (xupd (σ.2.2.1 183) i.toNatClampNeg x)))) else none := rfl
  rw [e, mk_put (σ' := sA σ 183 (xupd (σ.2.2.1 183) i.toNatClampNeg x)) (by decide) (by simp [mcell, sA, xupd]) (fun b hb => mcell_sA σ 183 _ hb)]
theorem ma184 (h : AH) (σ : MS) (i : Int32) : fIald (mk h σ) (.ref 184) (.int i) = if xinb i 24 = true then some (.int (σ.2.2.1 184 i.toNatClampNeg)) else none := rfl
theorem mt184 (h : AH) (σ : MS) (i x : Int32) : fIast (mk h σ) (.ref 184) (.int i) (.int x) = if xinb i 24 = true then some (mk h (sA σ 184 (xupd (σ.2.2.1 184) i.toNatClampNeg x))) else none := by
  have e : fIast (mk h σ) (.ref 184) (.int i) (.int x) = if xinb i 24 = true then some (xput (mk h σ) 184 (.inl (.int, 24, .inl (xupd (σ.2.2.1 184) i.toNatClampNeg x)))) else none := rfl
  rw [e, mk_put (σ' := sA σ 184 (xupd (σ.2.2.1 184) i.toNatClampNeg x)) (by decide) (by simp [mcell, sA, xupd]) (fun b hb => mcell_sA σ 184 _ hb)]
theorem ma185 (h : AH) (σ : MS) (i : Int32) : fLald (mk h σ) (.ref 185) (.int i) = if xinb i 576 = true then some (.long (σ.2.2.2 185 i.toNatClampNeg)) else none := rfl
theorem mt185 (h : AH) (σ : MS) (i : Int32) (x : Int64) : fLast (mk h σ) (.ref 185) (.int i) (.long x) = if xinb i 576 = true then some (mk h (sL σ 185 (xupd (σ.2.2.2 185) i.toNatClampNeg x))) else none := by
  have e : fLast (mk h σ) (.ref 185) (.int i) (.long x) = if xinb i 576 = true then some (xput (mk h σ) 185 (.inl (.long, 576, .inr (.inl (xupd (σ.2.2.2 185) i.toNatClampNeg x))))) else none := rfl
  rw [e, mk_put (σ' := sL σ 185 (xupd (σ.2.2.2 185) i.toNatClampNeg x)) (by decide) (by simp [mcell, sL, xupd]) (fun b hb => mcell_sL σ 185 _ hb)]
theorem ma186 (h : AH) (σ : MS) (i : Int32) : fZald (mk h σ) (.ref 186) (.int i) = if xinb i 24 = true then some (.int (σ.2.2.1 186 i.toNatClampNeg)) else none := rfl
theorem mt186 (h : AH) (σ : MS) (i x : Int32) : fZast (mk h σ) (.ref 186) (.int i) (.int x) = if xinb i 24 = true ∧ xfit .boolean (.int x) = true then some (mk h (sA σ 186 (xupd (σ.2.2.1 186) i.toNatClampNeg x))) else none := by
  have e : fZast (mk h σ) (.ref 186) (.int i) (.int x) = if xinb i 24 = true ∧ xfit .boolean (.int x) = true then some (xput (mk h σ) 186 (.inl (.boolean, 24, .inl (xupd (σ.2.2.1 186) i.toNatClampNeg x)))) else none := rfl
  rw [e, mk_put (σ' := sA σ 186 (xupd (σ.2.2.1 186) i.toNatClampNeg x)) (by decide) (by simp [mcell, sA, xupd]) (fun b hb => mcell_sA σ 186 _ hb)]
theorem ma187 (h : AH) (σ : MS) (i : Int32) : fLald (mk h σ) (.ref 187) (.int i) = if xinb i 24 = true then some (.long (σ.2.2.2 187 i.toNatClampNeg)) else none := rfl
theorem mt187 (h : AH) (σ : MS) (i : Int32) (x : Int64) : fLast (mk h σ) (.ref 187) (.int i) (.long x) = if xinb i 24 = true then some (mk h (sL σ 187 (xupd (σ.2.2.2 187) i.toNatClampNeg x))) else none := by
  have e : fLast (mk h σ) (.ref 187) (.int i) (.long x) = if xinb i 24 = true then some (xput (mk h σ) 187 (.inl (.long, 24, .inr (.inl (xupd (σ.2.2.2 187) i.toNatClampNeg x))))) else none := rfl
  rw [e, mk_put (σ' := sL σ 187 (xupd (σ.2.2.2 187) i.toNatClampNeg x)) (by decide) (by simp [mcell, sL, xupd]) (fun b hb => mcell_sL σ 187 _ hb)]
theorem ma188 (h : AH) (σ : MS) (i : Int32) : fIald (mk h σ) (.ref 188) (.int i) = if xinb i 24 = true then some (.int (σ.2.2.1 188 i.toNatClampNeg)) else none := rfl
theorem mt188 (h : AH) (σ : MS) (i x : Int32) : fIast (mk h σ) (.ref 188) (.int i) (.int x) = if xinb i 24 = true then some (mk h (sA σ 188 (xupd (σ.2.2.1 188) i.toNatClampNeg x))) else none := by
  have e : fIast (mk h σ) (.ref 188) (.int i) (.int x) = if xinb i 24 = true then some (xput (mk h σ) 188 (.inl (.int, 24, .inl (xupd (σ.2.2.1 188) i.toNatClampNeg x)))) else none := rfl
  rw [e, mk_put (σ' := sA σ 188 (xupd (σ.2.2.1 188) i.toNatClampNeg x)) (by decide) (by simp [mcell, sA, xupd]) (fun b hb => mcell_sA σ 188 _ hb)]
theorem ma189 (h : AH) (σ : MS) (i : Int32) : fIald (mk h σ) (.ref 189) (.int i) = if xinb i 600 = true then some (.int (σ.2.2.1 189 i.toNatClampNeg)) else none := rfl
theorem mt189 (h : AH) (σ : MS) (i x : Int32) : fIast (mk h σ) (.ref 189) (.int i) (.int x) = if xinb i 600 = true then some (mk h (sA σ 189 (xupd (σ.2.2.1 189) i.toNatClampNeg x))) else none := by
  have e : fIast (mk h σ) (.ref 189) (.int i) (.int x) = if xinb i 600 = true then some (xput (mk h σ) 189 (.inl (.int, 600, .inl (xupd (σ.2.2.1 189) i.toNatClampNeg x)))) else none := rfl
  rw [e, mk_put (σ' := sA σ 189 (xupd (σ.2.2.1 189) i.toNatClampNeg x)) (by decide) (by simp [mcell, sA, xupd]) (fun b hb => mcell_sA σ 189 _ hb)]
theorem ma190 (h : AH) (σ : MS) (i : Int32) : fIald (mk h σ) (.ref 190) (.int i) = if xinb i 72 = true then some (.int (σ.2.2.1 190 i.toNatClampNeg)) else none := rfl
theorem mt190 (h : AH) (σ : MS) (i x : Int32) : fIast (mk h σ) (.ref 190) (.int i) (.int x) = if xinb i 72 = true then some (mk h (sA σ 190 (xupd (σ.2.2.1 190) i.toNatClampNeg x))) else none := by
  have e : fIast (mk h σ) (.ref 190) (.int i) (.int x) = if xinb i 72 = true then some (xput (mk h σ) 190 (.inl (.int, 72, .inl (xupd (σ.2.2.1 190) i.toNatClampNeg x)))) else none := rfl
  rw [e, mk_put (σ' := sA σ 190 (xupd (σ.2.2.1 190) i.toNatClampNeg x)) (by decide) (by simp [mcell, sA, xupd]) (fun b hb => mcell_sA σ 190 _ hb)]
theorem ma191 (h : AH) (σ : MS) (i : Int32) : fIald (mk h σ) (.ref 191) (.int i) = if xinb i 600 = true then some (.int (σ.2.2.1 191 i.toNatClampNeg)) else none := rfl
theorem mt191 (h : AH) (σ : MS) (i x : Int32) : fIast (mk h σ) (.ref 191) (.int i) (.int x) = if xinb i 600 = true then some (mk h (sA σ 191 (xupd (σ.2.2.1 191) i.toNatClampNeg x))) else none := by
  have e : fIast (mk h σ) (.ref 191) (.int i) (.int x) = if xinb i 600 = true then some (xput (mk h σ) 191 (.inl (.int, 600, .inl (xupd (σ.2.2.1 191) i.toNatClampNeg x)))) else none := rfl
  rw [e, mk_put (σ' := sA σ 191 (xupd (σ.2.2.1 191) i.toNatClampNeg x)) (by decide) (by simp [mcell, sA, xupd]) (fun b hb => mcell_sA σ 191 _ hb)]
theorem na163 (h : AH) (σ : MS) {i : Nat} (hi : i < 7) : fIald (mk h σ) (.ref 163) (.int (nI i)) = some (.int (σ.2.2.1 163 i)) := by
  have e : xinb (nI i) 7 = true := by rw [xinb_n (by omega)]; exact decide_eq_true hi
  rw [ma163, if_pos e, clamp_n (by omega)]
theorem nt163 (h : AH) (σ : MS) {i : Nat} (x : Int32) (hi : i < 7) : fIast (mk h σ) (.ref 163) (.int (nI i)) (.int x) = some (mk h (sA σ 163 (xupd (σ.2.2.1 163) i x))) := by
  have e : xinb (nI i) 7 = true := by rw [xinb_n (by omega)]; exact decide_eq_true hi
  rw [mt163, if_pos e, clamp_n (by omega)]
theorem na164 (h : AH) (σ : MS) {i : Nat} (hi : i < 439) : fIald (mk h σ) (.ref 164) (.int (nI i)) = some (.int (σ.2.2.1 164 i)) := by
  have e : xinb (nI i) 439 = true := by rw [xinb_n (by omega)]; exact decide_eq_true hi
  rw [ma164, if_pos e, clamp_n (by omega)]
theorem nt164 (h : AH) (σ : MS) {i : Nat} (x : Int32) (hi : i < 439) : fIast (mk h σ) (.ref 164) (.int (nI i)) (.int x) = some (mk h (sA σ 164 (xupd (σ.2.2.1 164) i x))) := by
  have e : xinb (nI i) 439 = true := by rw [xinb_n (by omega)]; exact decide_eq_true hi
  rw [mt164, if_pos e, clamp_n (by omega)]
theorem na165 (h : AH) (σ : MS) {i : Nat} (hi : i < 4390) : fIald (mk h σ) (.ref 165) (.int (nI i)) = some (.int (σ.2.2.1 165 i)) := by
  have e : xinb (nI i) 4390 = true := by rw [xinb_n (by omega)]; exact decide_eq_true hi
  rw [ma165, if_pos e, clamp_n (by omega)]
theorem nt165 (h : AH) (σ : MS) {i : Nat} (x : Int32) (hi : i < 4390) : fIast (mk h σ) (.ref 165) (.int (nI i)) (.int x) = some (mk h (sA σ 165 (xupd (σ.2.2.1 165) i x))) := by
  have e : xinb (nI i) 4390 = true := by rw [xinb_n (by omega)]; exact decide_eq_true hi
  rw [mt165, if_pos e, clamp_n (by omega)]
theorem na166 (h : AH) (σ : MS) {i : Nat} (hi : i < 10) : fIald (mk h σ) (.ref 166) (.int (nI i)) = some (.int (σ.2.2.1 166 i)) := by
  have e : xinb (nI i) 10 = true := by rw [xinb_n (by omega)]; exact decide_eq_true hi
  rw [ma166, if_pos e, clamp_n (by omega)]
theorem nt166 (h : AH) (σ : MS) {i : Nat} (x : Int32) (hi : i < 10) : fIast (mk h σ) (.ref 166) (.int (nI i)) (.int x) = some (mk h (sA σ 166 (xupd (σ.2.2.1 166) i x))) := by
  have e : xinb (nI i) 10 = true := by rw [xinb_n (by omega)]; exact decide_eq_true hi
  rw [mt166, if_pos e, clamp_n (by omega)]
theorem na167 (h : AH) (σ : MS) {i : Nat} (hi : i < 878) : fIald (mk h σ) (.ref 167) (.int (nI i)) = some (.int (σ.2.2.1 167 i)) := by
  have e : xinb (nI i) 878 = true := by rw [xinb_n (by omega)]; exact decide_eq_true hi
  rw [ma167, if_pos e, clamp_n (by omega)]
theorem nt167 (h : AH) (σ : MS) {i : Nat} (x : Int32) (hi : i < 878) : fIast (mk h σ) (.ref 167) (.int (nI i)) (.int x) = some (mk h (sA σ 167 (xupd (σ.2.2.1 167) i x))) := by
  have e : xinb (nI i) 878 = true := by rw [xinb_n (by omega)]; exact decide_eq_true hi
  rw [mt167, if_pos e, clamp_n (by omega)]
theorem na168 (h : AH) (σ : MS) {i : Nat} (hi : i < 2) : fZald (mk h σ) (.ref 168) (.int (nI i)) = some (.int (σ.2.2.1 168 i)) := by
  have e : xinb (nI i) 2 = true := by rw [xinb_n (by omega)]; exact decide_eq_true hi
  rw [ma168, if_pos e, clamp_n (by omega)]
theorem nt168 (h : AH) (σ : MS) {i : Nat} (b : Bool) (hi : i < 2) : fZast (mk h σ) (.ref 168) (.int (nI i)) (xbv b) = some (mk h (sA σ 168 (xupd (σ.2.2.1 168) i (bI b)))) := by
  have e : xinb (nI i) 2 = true := by rw [xinb_n (by omega)]; exact decide_eq_true hi
  rw [show xbv b = .int (bI b) from rfl, mt168, if_pos ⟨e, by cases b <;> rfl⟩, clamp_n (by omega)]
theorem na169 (h : AH) (σ : MS) {i : Nat} (hi : i < 9) : fIald (mk h σ) (.ref 169) (.int (nI i)) = some (.int (σ.2.2.1 169 i)) := by
  have e : xinb (nI i) 9 = true := by rw [xinb_n (by omega)]; exact decide_eq_true hi
  rw [ma169, if_pos e, clamp_n (by omega)]
theorem nt169 (h : AH) (σ : MS) {i : Nat} (x : Int32) (hi : i < 9) : fIast (mk h σ) (.ref 169) (.int (nI i)) (.int x) = some (mk h (sA σ 169 (xupd (σ.2.2.1 169) i x))) := by
  have e : xinb (nI i) 9 = true := by rw [xinb_n (by omega)]; exact decide_eq_true hi
  rw [mt169, if_pos e, clamp_n (by omega)]
theorem na170 (h : AH) (σ : MS) {i : Nat} (hi : i < 72) : fIald (mk h σ) (.ref 170) (.int (nI i)) = some (.int (σ.2.2.1 170 i)) := by
  have e : xinb (nI i) 72 = true := by rw [xinb_n (by omega)]; exact decide_eq_true hi
  rw [ma170, if_pos e, clamp_n (by omega)]
theorem nt170 (h : AH) (σ : MS) {i : Nat} (x : Int32) (hi : i < 72) : fIast (mk h σ) (.ref 170) (.int (nI i)) (.int x) = some (mk h (sA σ 170 (xupd (σ.2.2.1 170) i x))) := by
  have e : xinb (nI i) 72 = true := by rw [xinb_n (by omega)]; exact decide_eq_true hi
  rw [mt170, if_pos e, clamp_n (by omega)]
theorem na171 (h : AH) (σ : MS) {i : Nat} (hi : i < 576) : fIald (mk h σ) (.ref 171) (.int (nI i)) = some (.int (σ.2.2.1 171 i)) := by
  have e : xinb (nI i) 576 = true := by rw [xinb_n (by omega)]; exact decide_eq_true hi
  rw [ma171, if_pos e, clamp_n (by omega)]
theorem nt171 (h : AH) (σ : MS) {i : Nat} (x : Int32) (hi : i < 576) : fIast (mk h σ) (.ref 171) (.int (nI i)) (.int x) = some (mk h (sA σ 171 (xupd (σ.2.2.1 171) i x))) := by
  have e : xinb (nI i) 576 = true := by rw [xinb_n (by omega)]; exact decide_eq_true hi
  rw [mt171, if_pos e, clamp_n (by omega)]
theorem na172 (h : AH) (σ : MS) {i : Nat} (hi : i < 3) : fIald (mk h σ) (.ref 172) (.int (nI i)) = some (.int (σ.2.2.1 172 i)) := by
  have e : xinb (nI i) 3 = true := by rw [xinb_n (by omega)]; exact decide_eq_true hi
  rw [ma172, if_pos e, clamp_n (by omega)]
theorem nt172 (h : AH) (σ : MS) {i : Nat} (x : Int32) (hi : i < 3) : fIast (mk h σ) (.ref 172) (.int (nI i)) (.int x) = some (mk h (sA σ 172 (xupd (σ.2.2.1 172) i x))) := by
  have e : xinb (nI i) 3 = true := by rw [xinb_n (by omega)]; exact decide_eq_true hi
  rw [mt172, if_pos e, clamp_n (by omega)]
theorem na173 (h : AH) (σ : MS) {i : Nat} (hi : i < 6) : fIald (mk h σ) (.ref 173) (.int (nI i)) = some (.int (σ.2.2.1 173 i)) := by
  have e : xinb (nI i) 6 = true := by rw [xinb_n (by omega)]; exact decide_eq_true hi
  rw [ma173, if_pos e, clamp_n (by omega)]
theorem nt173 (h : AH) (σ : MS) {i : Nat} (x : Int32) (hi : i < 6) : fIast (mk h σ) (.ref 173) (.int (nI i)) (.int x) = some (mk h (sA σ 173 (xupd (σ.2.2.1 173) i x))) := by
  have e : xinb (nI i) 6 = true := by rw [xinb_n (by omega)]; exact decide_eq_true hi
  rw [mt173, if_pos e, clamp_n (by omega)]
theorem na174 (h : AH) (σ : MS) {i : Nat} (hi : i < 192) : fIald (mk h σ) (.ref 174) (.int (nI i)) = some (.int (σ.2.2.1 174 i)) := by
  have e : xinb (nI i) 192 = true := by rw [xinb_n (by omega)]; exact decide_eq_true hi
  rw [ma174, if_pos e, clamp_n (by omega)]
theorem nt174 (h : AH) (σ : MS) {i : Nat} (x : Int32) (hi : i < 192) : fIast (mk h σ) (.ref 174) (.int (nI i)) (.int x) = some (mk h (sA σ 174 (xupd (σ.2.2.1 174) i x))) := by
  have e : xinb (nI i) 192 = true := by rw [xinb_n (by omega)]; exact decide_eq_true hi
  rw [mt174, if_pos e, clamp_n (by omega)]
theorem na175 (h : AH) (σ : MS) {i : Nat} (hi : i < 8) : fIald (mk h σ) (.ref 175) (.int (nI i)) = some (.int (σ.2.2.1 175 i)) := by
  have e : xinb (nI i) 8 = true := by rw [xinb_n (by omega)]; exact decide_eq_true hi
  rw [ma175, if_pos e, clamp_n (by omega)]
theorem nt175 (h : AH) (σ : MS) {i : Nat} (x : Int32) (hi : i < 8) : fIast (mk h σ) (.ref 175) (.int (nI i)) (.int x) = some (mk h (sA σ 175 (xupd (σ.2.2.1 175) i x))) := by
  have e : xinb (nI i) 8 = true := by rw [xinb_n (by omega)]; exact decide_eq_true hi
  rw [mt175, if_pos e, clamp_n (by omega)]
theorem na176 (h : AH) (σ : MS) {i : Nat} (hi : i < 3) : fIald (mk h σ) (.ref 176) (.int (nI i)) = some (.int (σ.2.2.1 176 i)) := by
  have e : xinb (nI i) 3 = true := by rw [xinb_n (by omega)]; exact decide_eq_true hi
  rw [ma176, if_pos e, clamp_n (by omega)]
theorem nt176 (h : AH) (σ : MS) {i : Nat} (x : Int32) (hi : i < 3) : fIast (mk h σ) (.ref 176) (.int (nI i)) (.int x) = some (mk h (sA σ 176 (xupd (σ.2.2.1 176) i x))) := by
  have e : xinb (nI i) 3 = true := by rw [xinb_n (by omega)]; exact decide_eq_true hi
  rw [mt176, if_pos e, clamp_n (by omega)]
theorem na177 (h : AH) (σ : MS) {i : Nat} (hi : i < 6) : fIald (mk h σ) (.ref 177) (.int (nI i)) = some (.int (σ.2.2.1 177 i)) := by
  have e : xinb (nI i) 6 = true := by rw [xinb_n (by omega)]; exact decide_eq_true hi
  rw [ma177, if_pos e, clamp_n (by omega)]
theorem nt177 (h : AH) (σ : MS) {i : Nat} (x : Int32) (hi : i < 6) : fIast (mk h σ) (.ref 177) (.int (nI i)) (.int x) = some (mk h (sA σ 177 (xupd (σ.2.2.1 177) i x))) := by
  have e : xinb (nI i) 6 = true := by rw [xinb_n (by omega)]; exact decide_eq_true hi
  rw [mt177, if_pos e, clamp_n (by omega)]
theorem na178 (h : AH) (σ : MS) {i : Nat} (hi : i < 8) : fIald (mk h σ) (.ref 178) (.int (nI i)) = some (.int (σ.2.2.1 178 i)) := by
  have e : xinb (nI i) 8 = true := by rw [xinb_n (by omega)]; exact decide_eq_true hi
  rw [ma178, if_pos e, clamp_n (by omega)]
theorem nt178 (h : AH) (σ : MS) {i : Nat} (x : Int32) (hi : i < 8) : fIast (mk h σ) (.ref 178) (.int (nI i)) (.int x) = some (mk h (sA σ 178 (xupd (σ.2.2.1 178) i x))) := by
  have e : xinb (nI i) 8 = true := by rw [xinb_n (by omega)]; exact decide_eq_true hi
  rw [mt178, if_pos e, clamp_n (by omega)]
theorem na179 (h : AH) (σ : MS) {i : Nat} (hi : i < 400) : fIald (mk h σ) (.ref 179) (.int (nI i)) = some (.int (σ.2.2.1 179 i)) := by
  have e : xinb (nI i) 400 = true := by rw [xinb_n (by omega)]; exact decide_eq_true hi
  rw [ma179, if_pos e, clamp_n (by omega)]
theorem nt179 (h : AH) (σ : MS) {i : Nat} (x : Int32) (hi : i < 400) : fIast (mk h σ) (.ref 179) (.int (nI i)) (.int x) = some (mk h (sA σ 179 (xupd (σ.2.2.1 179) i x))) := by
  have e : xinb (nI i) 400 = true := by rw [xinb_n (by omega)]; exact decide_eq_true hi
  rw [mt179, if_pos e, clamp_n (by omega)]
theorem na180 (h : AH) (σ : MS) {i : Nat} (hi : i < 6) : fLald (mk h σ) (.ref 180) (.int (nI i)) = some (.long (σ.2.2.2 180 i)) := by
  have e : xinb (nI i) 6 = true := by rw [xinb_n (by omega)]; exact decide_eq_true hi
  rw [ma180, if_pos e, clamp_n (by omega)]
theorem nt180 (h : AH) (σ : MS) {i : Nat} (x : Int64) (hi : i < 6) : fLast (mk h σ) (.ref 180) (.int (nI i)) (.long x) = some (mk h (sL σ 180 (xupd (σ.2.2.2 180) i x))) := by
  have e : xinb (nI i) 6 = true := by rw [xinb_n (by omega)]; exact decide_eq_true hi
  rw [mt180, if_pos e, clamp_n (by omega)]
theorem na181 (h : AH) (σ : MS) {i : Nat} (hi : i < 24) : fIald (mk h σ) (.ref 181) (.int (nI i)) = some (.int (σ.2.2.1 181 i)) := by
  have e : xinb (nI i) 24 = true := by rw [xinb_n (by omega)]; exact decide_eq_true hi
  rw [ma181, if_pos e, clamp_n (by omega)]
theorem nt181 (h : AH) (σ : MS) {i : Nat} (x : Int32) (hi : i < 24) : fIast (mk h σ) (.ref 181) (.int (nI i)) (.int x) = some (mk h (sA σ 181 (xupd (σ.2.2.1 181) i x))) := by
  have e : xinb (nI i) 24 = true := by rw [xinb_n (by omega)]; exact decide_eq_true hi
  rw [mt181, if_pos e, clamp_n (by omega)]
theorem na182 (h : AH) (σ : MS) {i : Nat} (hi : i < 24) : fIald (mk h σ) (.ref 182) (.int (nI i)) = some (.int (σ.2.2.1 182 i)) := by
  have e : xinb (nI i) 24 = true := by rw [xinb_n (by omega)]; exact decide_eq_true hi
  rw [ma182, if_pos e, clamp_n (by omega)]
theorem nt182 (h : AH) (σ : MS) {i : Nat} (x : Int32) (hi : i < 24) : fIast (mk h σ) (.ref 182) (.int (nI i)) (.int x) = some (mk h (sA σ 182 (xupd (σ.2.2.1 182) i x))) := by
  have e : xinb (nI i) 24 = true := by rw [xinb_n (by omega)]; exact decide_eq_true hi
  rw [mt182, if_pos e, clamp_n (by omega)]
theorem na183 (h : AH) (σ : MS) {i : Nat} (hi : i < 3) : fIald (mk h σ) (.ref 183) (.int (nI i)) = some (.int (σ.2.2.1 183 i)) := by
  have e : xinb (nI i) 3 = true := by rw [xinb_n (by omega)]; exact decide_eq_true hi
  rw [ma183, if_pos e, clamp_n (by omega)]
theorem nt183 (h : AH) (σ : MS) {i : Nat} (x : Int32) (hi : i < 3) : fIast (mk h σ) (.ref 183) (.int (nI i)) (.int x) = some (mk h (sA σ 183 (xupd (σ.2.2.1 183) i x))) := by
  have e : xinb (nI i) 3 = true := by rw [xinb_n (by omega)]; exact decide_eq_true hi
  rw [mt183, if_pos e, clamp_n (by omega)]
theorem na184 (h : AH) (σ : MS) {i : Nat} (hi : i < 24) : fIald (mk h σ) (.ref 184) (.int (nI i)) = some (.int (σ.2.2.1 184 i)) := by
  have e : xinb (nI i) 24 = true := by rw [xinb_n (by omega)]; exact decide_eq_true hi
  rw [ma184, if_pos e, clamp_n (by omega)]
theorem nt184 (h : AH) (σ : MS) {i : Nat} (x : Int32) (hi : i < 24) : fIast (mk h σ) (.ref 184) (.int (nI i)) (.int x) = some (mk h (sA σ 184 (xupd (σ.2.2.1 184) i x))) := by
  have e : xinb (nI i) 24 = true := by rw [xinb_n (by omega)]; exact decide_eq_true hi
  rw [mt184, if_pos e, clamp_n (by omega)]
theorem na185 (h : AH) (σ : MS) {i : Nat} (hi : i < 576) : fLald (mk h σ) (.ref 185) (.int (nI i)) = some (.long (σ.2.2.2 185 i)) := by
  have e : xinb (nI i) 576 = true := by rw [xinb_n (by omega)]; exact decide_eq_true hi
  rw [ma185, if_pos e, clamp_n (by omega)]
theorem nt185 (h : AH) (σ : MS) {i : Nat} (x : Int64) (hi : i < 576) : fLast (mk h σ) (.ref 185) (.int (nI i)) (.long x) = some (mk h (sL σ 185 (xupd (σ.2.2.2 185) i x))) := by
  have e : xinb (nI i) 576 = true := by rw [xinb_n (by omega)]; exact decide_eq_true hi
  rw [mt185, if_pos e, clamp_n (by omega)]
theorem na186 (h : AH) (σ : MS) {i : Nat} (hi : i < 24) : fZald (mk h σ) (.ref 186) (.int (nI i)) = some (.int (σ.2.2.1 186 i)) := by
  have e : xinb (nI i) 24 = true := by rw [xinb_n (by omega)]; exact decide_eq_true hi
  rw [ma186, if_pos e, clamp_n (by omega)]
theorem nt186 (h : AH) (σ : MS) {i : Nat} (b : Bool) (hi : i < 24) : fZast (mk h σ) (.ref 186) (.int (nI i)) (xbv b) = some (mk h (sA σ 186 (xupd (σ.2.2.1 186) i (bI b)))) := by
  have e : xinb (nI i) 24 = true := by rw [xinb_n (by omega)]; exact decide_eq_true hi
  rw [show xbv b = .int (bI b) from rfl, mt186, if_pos ⟨e, by cases b <;> rfl⟩, clamp_n (by omega)]
theorem na187 (h : AH) (σ : MS) {i : Nat} (hi : i < 24) : fLald (mk h σ) (.ref 187) (.int (nI i)) = some (.long (σ.2.2.2 187 i)) := by
  have e : xinb (nI i) 24 = true := by rw [xinb_n (by omega)]; exact decide_eq_true hi
  rw [ma187, if_pos e, clamp_n (by omega)]
theorem nt187 (h : AH) (σ : MS) {i : Nat} (x : Int64) (hi : i < 24) : fLast (mk h σ) (.ref 187) (.int (nI i)) (.long x) = some (mk h (sL σ 187 (xupd (σ.2.2.2 187) i x))) := by
  have e : xinb (nI i) 24 = true := by rw [xinb_n (by omega)]; exact decide_eq_true hi
  rw [mt187, if_pos e, clamp_n (by omega)]
theorem na188 (h : AH) (σ : MS) {i : Nat} (hi : i < 24) : fIald (mk h σ) (.ref 188) (.int (nI i)) = some (.int (σ.2.2.1 188 i)) := by
  have e : xinb (nI i) 24 = true := by rw [xinb_n (by omega)]; exact decide_eq_true hi
  rw [ma188, if_pos e, clamp_n (by omega)]
theorem nt188 (h : AH) (σ : MS) {i : Nat} (x : Int32) (hi : i < 24) : fIast (mk h σ) (.ref 188) (.int (nI i)) (.int x) = some (mk h (sA σ 188 (xupd (σ.2.2.1 188) i x))) := by
  have e : xinb (nI i) 24 = true := by rw [xinb_n (by omega)]; exact decide_eq_true hi
  rw [mt188, if_pos e, clamp_n (by omega)]
theorem na189 (h : AH) (σ : MS) {i : Nat} (hi : i < 600) : fIald (mk h σ) (.ref 189) (.int (nI i)) = some (.int (σ.2.2.1 189 i)) := by
  have e : xinb (nI i) 600 = true := by rw [xinb_n (by omega)]; exact decide_eq_true hi
  rw [ma189, if_pos e, clamp_n (by omega)]
theorem nt189 (h : AH) (σ : MS) {i : Nat} (x : Int32) (hi : i < 600) : fIast (mk h σ) (.ref 189) (.int (nI i)) (.int x) = some (mk h (sA σ 189 (xupd (σ.2.2.1 189) i x))) := by
  have e : xinb (nI i) 600 = true := by rw [xinb_n (by omega)]; exact decide_eq_true hi
  rw [mt189, if_pos e, clamp_n (by omega)]
theorem na190 (h : AH) (σ : MS) {i : Nat} (hi : i < 72) : fIald (mk h σ) (.ref 190) (.int (nI i)) = some (.int (σ.2.2.1 190 i)) := by
  have e : xinb (nI i) 72 = true := by rw [xinb_n (by omega)]; exact decide_eq_true hi
  rw [ma190, if_pos e, clamp_n (by omega)]
theorem nt190 (h : AH) (σ : MS) {i : Nat} (x : Int32) (hi : i < 72) : fIast (mk h σ) (.ref 190) (.int (nI i)) (.int x) = some (mk h (sA σ 190 (xupd (σ.2.2.1 190) i x))) := by
  have e : xinb (nI i) 72 = true := by rw [xinb_n (by omega)]; exact decide_eq_true hi
  rw [mt190, if_pos e, clamp_n (by omega)]
theorem na191 (h : AH) (σ : MS) {i : Nat} (hi : i < 600) : fIald (mk h σ) (.ref 191) (.int (nI i)) = some (.int (σ.2.2.1 191 i)) := by
  have e : xinb (nI i) 600 = true := by rw [xinb_n (by omega)]; exact decide_eq_true hi
  rw [ma191, if_pos e, clamp_n (by omega)]
theorem nt191 (h : AH) (σ : MS) {i : Nat} (x : Int32) (hi : i < 600) : fIast (mk h σ) (.ref 191) (.int (nI i)) (.int x) = some (mk h (sA σ 191 (xupd (σ.2.2.1 191) i x))) := by
  have e : xinb (nI i) 600 = true := by rw [xinb_n (by omega)]; exact decide_eq_true hi
  rw [mt191, if_pos e, clamp_n (by omega)]
theorem zb1 (h : AH) (r i : Value) : fZast h r i (.int (nI 1)) = fZast h r i (xbv true) := rfl
theorem zb0 (h : AH) (r i : Value) : fZast h r i (.int (nI 0)) = fZast h r i (xbv false) := rfl
theorem zb3 (a b : Nat) (h : AH) (r : Value) : fPut a b .boolean h r (.int (nI 1)) = fPut a b .boolean h r (xbv true) := rfl
theorem zb2 (a b : Nat) (h : AH) (r : Value) : fPut a b .boolean h r (.int (nI 0)) = fPut a b .boolean h r (xbv false) := rfl
theorem bI_ne (b : Bool) : xcm .ne (bI b) 0 = b := by cases b <;> rfl
theorem bI_eq (b : Bool) : xcm .eq (bI b) 0 = !b := by cases b <;> rfl
theorem mpZ (h : AH) (σ : MS) (b : Bool) : fPut 11 29 .boolean (mk h σ) (.ref 162) (xbv b) = some (mk h (sF σ 29 (bI b))) := by cases b <;> exact mp29 h σ _ rfl
theorem gA_eq (σ : MS) (a : Nat) (f : Nat → Int32) : (sA σ a f).2.2.1 a = f := xupd_eq
theorem gA_ne (σ : MS) {a b : Nat} (f : Nat → Int32) (h : b ≠ a) : (sA σ a f).2.2.1 b = σ.2.2.1 b := xupd_ne h
theorem gA_1 (σ : MS) (a : Nat) (f : Nat → Int32) : (sA σ a f).1 = σ.1 := rfl
theorem gA_21 (σ : MS) (a : Nat) (f : Nat → Int32) : (sA σ a f).2.1 = σ.2.1 := rfl
theorem gA_222 (σ : MS) (a : Nat) (f : Nat → Int32) : (sA σ a f).2.2.2 = σ.2.2.2 := rfl
theorem gF_eq (σ : MS) (k : Nat) (x : Int32) : (sF σ k x).1 k = x := xupd_eq
theorem gF_ne (σ : MS) {k j : Nat} (x : Int32) (h : j ≠ k) : (sF σ k x).1 j = σ.1 j := xupd_ne h
theorem gF_2 (σ : MS) (k : Nat) (x : Int32) : (sF σ k x).2 = σ.2 := rfl
theorem gW_1 (σ : MS) (x : Int64) : (sW σ x).1 = σ.1 := rfl
theorem gW_21 (σ : MS) (x : Int64) : (sW σ x).2.1 = x := rfl
theorem gW_22 (σ : MS) (x : Int64) : (sW σ x).2.2 = σ.2.2 := rfl
theorem gL_eq (σ : MS) (a : Nat) (f : Nat → Int64) : (sL σ a f).2.2.2 a = f := xupd_eq
theorem gL_ne (σ : MS) {a b : Nat} (f : Nat → Int64) (h : b ≠ a) : (sL σ a f).2.2.2 b = σ.2.2.2 b := xupd_ne h
theorem gL_1 (σ : MS) (a : Nat) (f : Nat → Int64) : (sL σ a f).1 = σ.1 := rfl
theorem gL_21 (σ : MS) (a : Nat) (f : Nat → Int64) : (sL σ a f).2.1 = σ.2.1 := rfl
theorem gL_221 (σ : MS) (a : Nat) (f : Nat → Int64) : (sL σ a f).2.2.1 = σ.2.2.1 := rfl
theorem xupd_xupd {α : Type} (f : Nat → α) (k : Nat) (x y : α) : xupd (xupd f k x) k y = xupd f k y := by
  funext j; simp only [xupd]; split <;> rfl
theorem sA_sA (σ : MS) (a : Nat) (f g : Nat → Int32) : sA (sA σ a f) a g = sA σ a g := by simp only [sA, xupd_xupd]
theorem sF_sF (σ : MS) (k : Nat) (x y : Int32) : sF (sF σ k x) k y = sF σ k y := by simp only [sF, xupd_xupd]
theorem sW_sW (σ : MS) (x y : Int64) : sW (sW σ x) y = sW σ y := rfl
theorem sL_sL (σ : MS) (a : Nat) (f g : Nat → Int64) : sL (sL σ a f) a g = sL σ a g := by simp only [sL, xupd_xupd]
theorem xupd_sw {α : Type} (f : Nat → α) {a b : Nat} (x y : α) (h : b < a) : xupd (xupd f a x) b y = xupd (xupd f b y) a x := by
  funext j
  simp only [xupd]
  by_cases e1 : j = b
  · rw [if_pos e1, if_neg (by omega), if_pos e1]
  · rw [if_neg e1, if_neg e1]
theorem xupd_e2 {α : Type} (f : Nat → α) {a b : Nat} (x : α) (h : b = a) : xupd f a x b = x := if_pos h
theorem xupd_id {α : Type} (f : Nat → α) (a : Nat) : xupd f a (f a) = f := by
  funext j
  simp only [xupd]
  split
  · rename_i e; rw [e]
  · rfl
theorem sA_sw (σ : MS) {a b : Nat} (f g : Nat → Int32) (h : b < a) : sA (sA σ a f) b g = sA (sA σ b g) a f := by simp only [sA, xupd_sw _ _ _ h]
theorem sF_sw (σ : MS) {a b : Nat} (f g : Int32) (h : b < a) : sF (sF σ a f) b g = sF (sF σ b g) a f := by simp only [sF, xupd_sw _ _ _ h]
theorem sL_sw (σ : MS) {a b : Nat} (f g : Nat → Int64) (h : b < a) : sL (sL σ a f) b g = sL (sL σ b g) a f := by simp only [sL, xupd_sw _ _ _ h]
theorem sF_sA (σ : MS) (a k : Nat) (f : Nat → Int32) (x : Int32) : sF (sA σ a f) k x = sA (sF σ k x) a f := rfl
theorem sF_sL (σ : MS) (a k : Nat) (f : Nat → Int64) (x : Int32) : sF (sL σ a f) k x = sL (sF σ k x) a f := rfl
theorem sA_sL (σ : MS) (a b : Nat) (f : Nat → Int64) (g : Nat → Int32) : sA (sL σ a f) b g = sL (sA σ b g) a f := rfl
theorem sF_sW (σ : MS) (k : Nat) (x : Int32) (y : Int64) : sF (sW σ y) k x = sW (sF σ k x) y := rfl
theorem sA_sW (σ : MS) (a : Nat) (f : Nat → Int32) (y : Int64) : sA (sW σ y) a f = sW (sA σ a f) y := rfl
theorem sL_sW (σ : MS) (a : Nat) (f : Nat → Int64) (y : Int64) : sL (sW σ y) a f = sW (sL σ a f) y := rfl
theorem sA_id (σ : MS) (a : Nat) : sA σ a (σ.2.2.1 a) = σ := by simp only [sA, xupd_id]
theorem sL_id (σ : MS) (a : Nat) : sL σ a (σ.2.2.2 a) = σ := by simp only [sL, xupd_id]
theorem sF_id (σ : MS) (a : Nat) : sF σ a (σ.1 a) = σ := by simp only [sF, xupd_id]
theorem sW_id (σ : MS) : sW σ σ.2.1 = σ := rfl
theorem sA_id2 (σ : MS) (a : Nat) {f : Nat → Int32} (h : σ.2.2.1 a = f) : sA σ a f = σ := by rw [← h, sA_id]
theorem sL_id2 (σ : MS) (a : Nat) {f : Nat → Int64} (h : σ.2.2.2 a = f) : sL σ a f = σ := by rw [← h, sL_id]
theorem sF_id2 (σ : MS) (a : Nat) {x : Int32} (h : σ.1 a = x) : sF σ a x = σ := by rw [← h, sF_id]
theorem mcV (h : AH) (σ : MS) : (mk h σ).2 162 = some (.inr (11, mfs σ)) := rfl
theorem okM (h : AH) (σ : MS) : okv 11 (mk h σ) (.ref 162) = True := okv_r 11 162 _ (mfs σ) rfl
theorem oI0 : Int32.ofInt 0 = nI 0 := rfl
theorem oI1 : Int32.ofInt 1 = nI 1 := rfl
theorem oI2 : Int32.ofInt 2 = nI 2 := rfl
theorem oI3 : Int32.ofInt 3 = nI 3 := rfl
theorem oI4 : Int32.ofInt 4 = nI 4 := rfl
theorem oI5 : Int32.ofInt 5 = nI 5 := rfl
theorem oI6 : Int32.ofInt 6 = nI 6 := rfl
theorem oI7 : Int32.ofInt 7 = nI 7 := rfl
theorem oI8 : Int32.ofInt 8 = nI 8 := rfl
theorem oI9 : Int32.ofInt 9 = nI 9 := rfl
theorem oI10 : Int32.ofInt 10 = nI 10 := rfl
theorem oI11 : Int32.ofInt 11 = nI 11 := rfl
theorem oI12 : Int32.ofInt 12 = nI 12 := rfl
theorem oI13 : Int32.ofInt 13 = nI 13 := rfl
theorem oI14 : Int32.ofInt 14 = nI 14 := rfl
theorem oI15 : Int32.ofInt 15 = nI 15 := rfl
theorem oI16 : Int32.ofInt 16 = nI 16 := rfl
theorem oI18 : Int32.ofInt 18 = nI 18 := rfl
theorem oI20 : Int32.ofInt 20 = nI 20 := rfl
theorem oI22 : Int32.ofInt 22 = nI 22 := rfl
theorem oI23 : Int32.ofInt 23 = nI 23 := rfl
theorem oI24 : Int32.ofInt 24 = nI 24 := rfl
theorem oI25 : Int32.ofInt 25 = nI 25 := rfl
theorem oI26 : Int32.ofInt 26 = nI 26 := rfl
theorem oI30 : Int32.ofInt 30 = nI 30 := rfl
theorem oI31 : Int32.ofInt 31 = nI 31 := rfl
theorem oI32 : Int32.ofInt 32 = nI 32 := rfl
theorem oI39 : Int32.ofInt 39 = nI 39 := rfl
theorem oI40 : Int32.ofInt 40 = nI 40 := rfl
theorem oI45 : Int32.ofInt 45 = nI 45 := rfl
theorem oI48 : Int32.ofInt 48 = nI 48 := rfl
theorem oI50 : Int32.ofInt 50 = nI 50 := rfl
theorem oI57 : Int32.ofInt 57 = nI 57 := rfl
theorem oI64 : Int32.ofInt 64 = nI 64 := rfl
theorem oI72 : Int32.ofInt 72 = nI 72 := rfl
theorem oI96 : Int32.ofInt 96 = nI 96 := rfl
theorem oI97 : Int32.ofInt 97 = nI 97 := rfl
theorem oI99 : Int32.ofInt 99 = nI 99 := rfl
theorem oI100 : Int32.ofInt 100 = nI 100 := rfl
theorem oI122 : Int32.ofInt 122 = nI 122 := rfl
theorem oI192 : Int32.ofInt 192 = nI 192 := rfl
theorem oI255 : Int32.ofInt 255 = nI 255 := rfl
theorem oI400 : Int32.ofInt 400 = nI 400 := rfl
theorem oI439 : Int32.ofInt 439 = nI 439 := rfl
theorem oI576 : Int32.ofInt 576 = nI 576 := rfl
theorem oI600 : Int32.ofInt 600 = nI 600 := rfl
theorem oI878 : Int32.ofInt 878 = nI 878 := rfl
theorem oI999 : Int32.ofInt 999 = nI 999 := rfl
theorem oI3951 : Int32.ofInt 3951 = nI 3951 := rfl
theorem oI4000 : Int32.ofInt 4000 = nI 4000 := rfl
theorem oI4390 : Int32.ofInt 4390 = nI 4390 := rfl
theorem oI9999 : Int32.ofInt 9999 = nI 9999 := rfl
theorem oIm1 : Int32.ofInt (-1) = -nI 1 := rfl
theorem oIm2 : Int32.ofInt (-2) = -nI 2 := rfl
theorem oIm4 : Int32.ofInt (-4) = -nI 4 := rfl
theorem oIm5 : Int32.ofInt (-5) = -nI 5 := rfl
theorem oIm6 : Int32.ofInt (-6) = -nI 6 := rfl
theorem oIm9 : Int32.ofInt (-9) = -nI 9 := rfl
theorem oIm99 : Int32.ofInt (-99) = -nI 99 := rfl
theorem lT2 : (2 : Int64).toInt = 2 := rfl
theorem lT3 : (3 : Int64).toInt = 3 := rfl
theorem lT8 : (8 : Int64).toInt = 8 := rfl
theorem lT9 : (9 : Int64).toInt = 9 := rfl
theorem lT99 : (99 : Int64).toInt = 99 := rfl
theorem lT9999 : (9999 : Int64).toInt = 9999 := rfl
theorem lTm1 : (-1 : Int64).toInt = -1 := rfl
theorem lTm9 : (-9 : Int64).toInt = -9 := rfl
theorem lTm99 : (-99 : Int64).toInt = -99 := rfl
theorem lTm9999 : (-9999 : Int64).toInt = -9999 := rfl
theorem lTc0 : (Int64.ofNat 0).toInt = 0 := rfl
theorem lTc1 : (Int64.ofNat 1).toInt = 1 := rfl
