/-! the table's functions are put in order -/
theorem isV_t (n : Nat) {v : Nat} (h1 : 97 ≤ v) (h2 : v < 147) (h3 : v % 2 = 1) : isV n v = true := by
  rw [isV, Bool.or_eq_true]
  left
  rw [Bool.and_eq_true, Bool.and_eq_true]
  exact ⟨⟨Nat.ble_eq_true_of_le h1, Nat.ble_eq_true_of_le h2⟩, by rw [h3]; rfl⟩
theorem xt95s (h : AH) (c : XC) (τ : XS) {i q : Nat} (hi : i < 25) (hq : isV c.1 q = true) : fAast "CornerCuts$Values" 8 (mkX h c τ) (.ref 95) (.int (nI i)) (.ref q) = some (mkX h c (uP τ 95 (xupd (τ.2.2 95) i (some q)))) := xt95_ h c τ (some q) hi (fun q' e => by cases e; exact hq)
def shF (R : Nat → Option Nat) (n i : Nat) : Nat → Option Nat := fun j => if i < j ∧ j ≤ n then R (j - 1) else R j
theorem shF_0 (R : Nat → Option Nat) (n : Nat) : shF R n n = R := by
  funext j; rw [shF, if_neg (by omega)]
theorem shF_s (R : Nat → Option Nat) {n i : Nat} (h1 : 0 < i) (h2 : i ≤ n) : xupd (shF R n i) i (R (i - 1)) = shF R n (i - 1) := by
  funext j
  by_cases e : j = i
  · rw [e, xupd_eq, shF, if_pos (by omega)]
  · rw [xupd_ne e, shF, shF]
    by_cases c : i < j ∧ j ≤ n
    · rw [if_pos c, if_pos (by omega)]
    · rw [if_neg c, if_neg (by omega)]
theorem shF_at (R : Nat → Option Nat) {n i : Nat} : shF R n i (i - 1) = R (i - 1) := by
  rw [shF, if_neg (by omega)]
def piN (p n j : Nat) : Nat := if j < p then j else if j = p then n else if j ≤ n then j - 1 else j
theorem piN_at (R : Nat → Option Nat) {p n : Nat} (hp : p ≤ n) {x : Option Nat} (hx : R n = x) (j : Nat) : xupd (shF R n p) p x j = R (piN p n j) := by
  rw [piN]
  by_cases c1 : j < p
  · rw [if_pos c1, xupd_ne (by omega), shF, if_neg (by omega)]
  · rw [if_neg c1]
    by_cases c2 : j = p
    · rw [if_pos c2, c2, xupd_eq, hx]
    · rw [if_neg c2, xupd_ne c2, shF]
      by_cases c3 : j ≤ n
      · rw [if_pos c3, if_pos (by omega)]
      · rw [if_neg c3, if_neg (by omega)]
theorem piN_lt {p n j : Nat} (hp : p ≤ n) (hn : n < 25) (hj : j < 25) : piN p n j < 25 := by
  rw [piN]; split
  · exact hj
  · split
    · exact hn
    · split <;> omega
theorem piN_inj {p n i j : Nat} (hp : p ≤ n) (h : i ≠ j) : piN p n i ≠ piN p n j := by
  simp only [piN]
  repeat' split
  all_goals omega
/-- a function lies in a Values, not judged -/
def vfn (D g : Nat) (f : Nat → Nat) (v : Nat) (τ : XS) : Prop := (∀ e, e < D → τ.1 (v + 1) e = nI (f e)) ∧ τ.1 v 1 = nI (f g) ∧ τ.1 v 2 = bI false
def tbX (D g : Nat) (l : List (Nat → Nat)) (τ : XS) : Prop := τ.1 94 0 = nI l.length ∧ ∀ i, i < l.length → ∃ v, τ.2.2 95 i = some v ∧ vfn D g (fnAt l i) v τ
theorem srt_at {D : Nat} {l : List (Nat → Nat)} (h : srt D l) {i j : Nat} (hij : i < j) (hj : j < l.length) : lxR (fnAt l i) (fnAt l j) D 0 = -nI 1 := by
  have hi : i < l.length := by omega
  have := List.pairwise_iff_getElem.mp h i j hi hj hij
  rw [fnAt, fnAt, List.getD_eq_getElem?_getD, List.getD_eq_getElem?_getD, List.getElem?_eq_getElem hi, List.getElem?_eq_getElem hj]
  exact this
theorem ord_b {D : Nat} {w : Nat → Nat} {l : List (Nat → Nat)} {i : Nat} (h : i < insP D w l) : lxR (fnAt l i) w D 0 = -nI 1 := by
  rw [lx_an, insP_lt D w l i h]
theorem ord_a {D : Nat} {w : Nat → Nat} {l : List (Nat → Nat)} {i : Nat} (hs : srt D l) (hi : i < l.length) (hp : insP D w l ≤ i) (hne : ¬ lxR w (fnAt l (insP D w l)) D 0 = nI 0) : lxR (fnAt l i) w D 0 = nI 1 := by
  have a1 := insP_at D w l (by omega)
  have a2 : lxR w (fnAt l (insP D w l)) D 0 = -nI 1 := by
    rcases lx_3 w (fnAt l (insP D w l)) D 0 with z | z | z
    · exact absurd z hne
    · exact absurd z a1
    · exact z
  have a3 : lxR w (fnAt l i) D 0 = -nI 1 := by
    by_cases e : i = insP D w l
    · rw [e]; exact a2
    · exact lx_tr a2 (srt_at hs (by omega) hi)
  rw [lx_an, a3]; decide
