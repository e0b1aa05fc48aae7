/-! texts, abstract -/
theorem lq_out {c : List Value → Nat × Nat → AH → (Bool → Nat × Nat → AH → Prop) → Prop} {b u : List Value → Nat × Nat → AH → xPo → xPo → xPo → (Option Value → AH → Prop) → Prop} {N : xPo} {R : Option Value → AH → Prop} {k : Nat × Nat} {L : List Value} {H : AH}
    (hs : ∀ (P : xPo), c L k H (fun v k' h' => if v = true then b L k' h' (fun L2 k2 h2 => u L2 k2 h2 P (fun _ _ _ => False) (fun _ _ _ => False) R) N (fun L2 k2 h2 => u L2 k2 h2 P (fun _ _ _ => False) (fun _ _ _ => False) R) R else N L k' h')) {f : xFx (c, b, u, N, R)} : lq c b u N R f L k H :=
  lq_g (S := Unit) (fun _ => True) (fun _ => 0) (fun _ => L) (fun _ => H) () rfl rfl trivial (fun _ P _ _ => hs P)
/-- where a run of bytes ends -/
def rnE (B : Nat → Bool) (n : Nat) : Nat → Nat → Nat
  | 0, p => p
  | f + 1, p => if p < n ∧ B p = true then rnE B n f (p + 1) else p
def ruE (B : Nat → Bool) (n p : Nat) : Nat := rnE B n (n - p) p
theorem ruE_t {B : Nat → Bool} {n p : Nat} (h : p < n) (hB : B p = true) : ruE B n p = ruE B n (p + 1) := by
  rw [ruE, ruE, show n - p = (n - (p + 1)) + 1 by omega, rnE, if_pos ⟨h, hB⟩]
theorem ruE_f {B : Nat → Bool} {n p : Nat} (h : ¬ (p < n ∧ B p = true)) : ruE B n p = p := by
  rw [ruE]
  cases n - p with
  | zero => rfl
  | succ f => rw [rnE, if_neg h]
theorem ruE_le (B : Nat → Bool) (n : Nat) : ∀ k p, n - p = k → p ≤ n → p ≤ ruE B n p ∧ ruE B n p ≤ n ∧ ¬ (ruE B n p < n ∧ B (ruE B n p) = true) ∧ ∀ i, p ≤ i → i < ruE B n p → B i = true := by
  intro k
  induction k with
  | zero =>
    intro p hk hp
    rw [ruE_f (by omega)]
    exact ⟨Nat.le_refl _, hp, by omega, fun i a b => by omega⟩
  | succ k ih =>
    intro p hk hp
    by_cases c : B p = true
    · obtain ⟨h1, h2, h3, h4⟩ := ih (p + 1) (by omega) (by omega)
      rw [ruE_t (by omega) c]
      refine ⟨by omega, h2, h3, fun i a b => ?_⟩
      by_cases d : i = p
      · rw [d]; exact c
      · exact h4 i (by omega) b
    · rw [ruE_f (fun z => c z.2)]
      exact ⟨Nat.le_refl _, hp, fun z => c z.2, fun i a b => by omega⟩
theorem ruE_ok (B : Nat → Bool) {n p : Nat} (hp : p ≤ n) : p ≤ ruE B n p ∧ ruE B n p ≤ n ∧ ¬ (ruE B n p < n ∧ B (ruE B n p) = true) ∧ ∀ i, p ≤ i → i < ruE B n p → B i = true := ruE_le B n _ p rfl hp
def isBl (t : Nat → Nat) (p : Nat) : Bool := decide (t p = 32)
def isLt (t : Nat → Nat) (p : Nat) : Bool := decide (97 ≤ t p) && decide (t p ≤ 122)
def isDg (t : Nat → Nat) (p : Nat) : Bool := decide (48 ≤ t p) && decide (t p ≤ 57)
def skE (t : Nat → Nat) (n p : Nat) : Nat := ruE (isBl t) n p
/-- digits as a number, letters as a number -/
def dgV (t : Nat → Nat) (p k : Nat) : Nat := xfo (fun i v => v * 10 + (t (p + i) - 48)) k 0
theorem dgV_s (t : Nat → Nat) (p k : Nat) : dgV t p (k + 1) = dgV t p k * 10 + (t (p + k) - 48) := rfl
def wdV (t : Nat → Nat) (p k : Nat) : Nat := xfo (fun i v => v * 32 + (t (p + i) - 96)) k 0
theorem wdV_s (t : Nat → Nat) (p k : Nat) : wdV t p (k + 1) = wdV t p k * 32 + (t (p + k) - 96) := rfl
theorem dgV_lt {t : Nat → Nat} {p : Nat} : ∀ k, (∀ i, i < k → isDg t (p + i) = true) → dgV t p k < 10 ^ k := by
  intro k
  induction k with
  | zero => intro _; exact Nat.lt_succ_self 0
  | succ k ih =>
    intro h
    have h1 := ih (fun i hi => h i (by omega))
    have h2 := h k (by omega)
    simp only [isDg, Bool.and_eq_true, decide_eq_true_eq] at h2
    rw [dgV_s, Nat.pow_succ]
    omega
theorem wdV_lt {t : Nat → Nat} {p : Nat} : ∀ k, (∀ i, i < k → isLt t (p + i) = true) → wdV t p k < 32 ^ k := by
  intro k
  induction k with
  | zero => intro _; exact Nat.lt_succ_self 0
  | succ k ih =>
    intro h
    have h1 := ih (fun i hi => h i (by omega))
    have h2 := h k (by omega)
    simp only [isLt, Bool.and_eq_true, decide_eq_true_eq] at h2
    rw [wdV_s, Nat.pow_succ]
    omega
/-- an int at a place: where its digits begin, where they end, its value -/
def miB (t : Nat → Nat) (n s : Nat) : Bool := decide (s < n) && decide (t s = 45)
def inS (t : Nat → Nat) (n s : Nat) : Nat := if miB t n s = true then s + 1 else s
def inE (t : Nat → Nat) (n s : Nat) : Nat := ruE (isDg t) n (inS t n s)
def inK (t : Nat → Nat) (n s : Nat) : Nat := inE t n s - inS t n s
def inV (t : Nat → Nat) (n s : Nat) : Int := if miB t n s = true then -(dgV t (inS t n s) (inK t n s) : Int) else dgV t (inS t n s) (inK t n s)
def inG (t : Nat → Nat) (n s : Nat) (lo hi : Int) : Bool := decide (1 ≤ inK t n s) && decide (inK t n s ≤ 6) && decide (lo ≤ inV t n s) && decide (inV t n s ≤ hi)
/-- ints in their limits, one behind another -/
def rdL (t : Nat → Nat) (n : Nat) : List (Int × Int) → Nat → Nat ⊕ (List Int × Nat)
  | [], p => .inr ([], p)
  | x :: ls, p => if inG t n (skE t n p) x.1 x.2 = true then (match rdL t n ls (inE t n (skE t n p)) with | .inl f => .inl f | .inr q => .inr (inV t n (skE t n p) :: q.1, q.2)) else .inl (skE t n p)
def kdO (t : Nat → Nat) (s k : Nat) : Option Nat := if 10 < k then none else if wdV t s k = 7593 then some 0 else if wdV t s k = 215075 then some 1 else if wdV t s k = 643248 then some 2 else if wdV t s k = 81544 then some 3 else if wdV t s k = 284044 then some 4 else if wdV t s k = 671108 then some 5 else none
/-- the limits of a kind's ints -/
def kdL (m nk D : Nat) : Nat → List (Int × Int)
  | 0 => List.replicate m (-9, 9)
  | 1 => List.replicate m (-9, 9)
  | 2 => (1, 23) :: List.replicate m (-9, 9)
  | 3 => [(0, (nk : Int) - 1), (0, (nk : Int) - 1)]
  | 4 => [(0, (nk : Int) - 1)]
  | _ => List.replicate D (0, 999)
/-- a text, read: its fault, or its kind and ints -/
def rdT (t : Nat → Nat) (n m nk D : Nat) : Nat ⊕ (Nat × List Int) :=
  match kdO t (skE t n 0) (ruE (isLt t) n (skE t n 0) - skE t n 0) with
  | none => .inl (skE t n 0)
  | some k => match rdL t n (kdL m nk D k) (ruE (isLt t) n (skE t n 0)) with
    | .inl f => .inl f
    | .inr q => if skE t n q.2 = n then .inr (k, q.1) else .inl (skE t n q.2)
/-- the sort of what stands at a place -/
def srN (t : Nat → Nat) (n s : Nat) : Nat := if s = n then 0 else if isLt t s = true then 1 else if ((miB t n s && decide (s + 1 < n) && isDg t (s + 1)) || isDg t s) = true then 2 else 3
theorem inK_sr {t : Nat → Nat} {n s : Nat} (hs : s ≤ n) : 1 ≤ inK t n s ↔ srN t n s = 2 := by
  by_cases c0 : s = n
  · have : inK t n s = 0 := by
      have hm : miB t n s = false := by rw [miB, decide_eq_false (by omega), Bool.false_and]
      rw [inK, inE, inS, hm, if_neg (by decide), ruE_f (by omega), Nat.sub_self]
    rw [srN, if_pos c0, this]; omega
  · by_cases cl : isLt t s = true
    · have cl' := cl
      simp only [isLt, Bool.and_eq_true, decide_eq_true_eq] at cl'
      have : inK t n s = 0 := by
        have hm : miB t n s = false := by rw [miB, decide_eq_false (p := t s = 45) (by omega), Bool.and_false]
        rw [inK, inE, inS, hm, if_neg (by decide), ruE_f (fun z => by have := z.2; simp only [isDg, Bool.and_eq_true, decide_eq_true_eq] at this; omega), Nat.sub_self]
      rw [srN, if_neg c0, if_pos cl, this]; omega
    · rw [srN, if_neg c0, if_neg cl]
      by_cases cm : miB t n s = true
      · have hd : isDg t s = false := by
          simp only [miB, Bool.and_eq_true, decide_eq_true_eq] at cm
          rw [isDg, decide_eq_false (by omega), Bool.false_and]
        rw [inK, inE, inS, if_pos cm, cm, hd, Bool.true_and, Bool.or_false]
        by_cases cd : s + 1 < n ∧ isDg t (s + 1) = true
        · have h1 := (ruE_ok (isDg t) (n := n) (p := s + 1 + 1) (by omega)).1
          rw [ruE_t cd.1 cd.2, decide_eq_true cd.1, cd.2, if_pos (by decide)]
          omega
        · rw [ruE_f cd, if_neg (fun z => cd (by simpa using z))]
          omega
      · rw [inK, inE, inS, if_neg cm, eq_false_of_ne_true cm, Bool.false_and, Bool.false_and, Bool.false_or]
        by_cases cd : isDg t s = true
        · have h1 := (ruE_ok (isDg t) (n := n) (p := s + 1) (by omega)).1
          rw [ruE_t (by omega) cd, if_pos cd]
          omega
        · rw [ruE_f (fun z => cd z.2), if_neg cd]
          omega
theorem inE_ok {t : Nat → Nat} {n s : Nat} (hs : s ≤ n) : s ≤ inS t n s ∧ inS t n s ≤ inE t n s ∧ inE t n s ≤ n := by
  have h1 : s ≤ inS t n s ∧ inS t n s ≤ n := by
    rw [inS]
    split
    · next c =>
      simp only [miB, Bool.and_eq_true, decide_eq_true_eq] at c
      omega
    · exact ⟨Nat.le_refl _, hs⟩
  have h2 := ruE_ok (isDg t) h1.2
  exact ⟨h1.1, h2.1, h2.2.1⟩
theorem inV_b {t : Nat → Nat} {n s : Nat} (hs : s ≤ n) (hk : inK t n s ≤ 6) : (inV t n s).natAbs < 1000000 := by
  obtain ⟨h1, h2, h3⟩ := inE_ok (t := t) hs
  have h4 := ruE_ok (isDg t) (n := n) (p := inS t n s) (by omega)
  have h5 := dgV_lt (t := t) (p := inS t n s) (inK t n s) (fun i hi => h4.2.2.2 _ (by omega) (by rw [inK, inE] at hi; omega))
  have h6 : 10 ^ inK t n s ≤ 10 ^ 6 := Nat.pow_le_pow_right (by omega) hk
  rw [inV]
  split <;> omega
