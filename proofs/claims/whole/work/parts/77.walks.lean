/-! the reference's walks -/
def tO (o : Option Nat) (k : Nat) : Nat := match o with
  | none => if k < 2 then 1000000000 else 0
  | some x => deT x k
def repW (D : Nat) (f : Nat → Int32) (L : LB) : Prop := ∀ e k, e < D → k < 8 → f (8 * e + k) = nI (tO (L e) k)
def wkF (r : Nat → Int32) (nc : Nat) : LB := lbF (sNr r) (mdN r) (wtW (ctN r)) nc (szN r)
theorem lInv_w {S : Nat → Nat → Nat} {el wt : Nat → Nat} {K D : Nat} (hg : gLaw D S) (h0 : 0 < D) (hD : D ≤ 24) (hel : ∀ k, k < K → el k < D) {L : LB} (h : lInv S el wt K D L) {e x : Nat} (he : L e = some x) : ∃ w : List Nat, (∀ k ∈ w, k < K) ∧ w.length ≤ 23 ∧ wsm wt w = x := by
  obtain ⟨-, w, hw⟩ := h e x he
  have h1 := wGd_len hg h0 hel hw
  exact ⟨w, hw.1, by omega, hw.2.2.1⟩
/-- a label as eight small numbers -/
theorem lab_de {S : Nat → Nat → Nat} {el ct : Nat → Nat} {K D : Nat} (hg : gLaw D S) (h0 : 0 < D) (hD : D ≤ 24) (hel : ∀ k, k < K → el k < D) (hK : K ≤ 6) (hct : ∀ c, c < K → ct c ≤ 99) {L : LB} (h : lInv S el (wtW ct) K D L) {e x : Nat} (he : L e = some x) :
    (tOK (deT x) ∧ enT (deT x) = x) ∧ deT x 1 ≤ 23 ∧ deT x 0 ≤ 2277 ∧ (∀ c k, c < K → k < 8 → deT (x + wtW ct c) k = deT x k + (if k = 0 then ct c else if k = 1 then 1 else if k = 2 + c then 1 else 0)) ∧ (∀ c, c < K → tOK (deT (x + wtW ct c)) ∧ enT (deT (x + wtW ct c)) = x + wtW ct c) := by
  obtain ⟨w, hw, hl, rfl⟩ := lInv_w hg h0 hD hel h he
  have hcs := wcs_le hct w hw
  refine ⟨de_ok hK hct hw (by omega), ?_, ?_, fun c k hc hk => de_step hK hct hw hc (by omega) hk, fun c hc => ?_⟩
  · rw [de_w hK hct hw (by omega) (by omega)]; exact hl
  · rw [de_w hK hct hw (by omega) (by omega)]
    show wcs ct w ≤ 2277
    omega
  · exact de_ok (w := c :: w) hK hct (fun j hj => by
      rcases List.mem_cons.mp hj with z | z
      · rw [z]; exact hc
      · exact hw j z) (by simp; omega)
theorem tO_0 : tO none 0 = 1000000000 := rfl
theorem tO_lt {S : Nat → Nat → Nat} {el ct : Nat → Nat} {K D : Nat} (hg : gLaw D S) (h0 : 0 < D) (hD : D ≤ 24) (hel : ∀ k, k < K → el k < D) (hK : K ≤ 6) (hct : ∀ c, c < K → ct c ≤ 99) {L : LB} (h : lInv S el (wtW ct) K D L) (e : Nat) {k : Nat} (hk : k < 8) : tO (L e) k < 2147483648 := by
  cases hx : L e with
  | none => rw [tO]; split <;> omega
  | some x =>
    have q := (lab_de hg h0 hD hel hK hct h hx).1.1
    show deT x k < 2147483648
    have hc : k = 0 ∨ k = 1 ∨ ∃ c, c < 6 ∧ k = 2 + c := by
      rcases Nat.lt_or_ge k 2 with z | z
      · omega
      · exact Or.inr (Or.inr ⟨k - 2, by omega, by omega⟩)
    rcases hc with rfl | rfl | ⟨c, hc, rfl⟩
    · have := q.1; omega
    · have := q.2.1; omega
    · have := q.2.2.1 c hc; omega
theorem bet_btO {S : Nat → Nat → Nat} {el ct : Nat → Nat} {K D : Nat} (hg : gLaw D S) (h0 : 0 < D) (hD : D ≤ 24) (hel : ∀ k, k < K → el k < D) (hK : K ≤ 6) (hct : ∀ c, c < K → ct c ≤ 99) {L : LB} (h : lInv S el (wtW ct) K D L) {e x c : Nat} (he : L e = some x) (hc : c < K) (t : Nat) : betN (deT (x + wtW ct c)) (tO (L t)) = btO (x + wtW ct c) (L t) := by
  obtain ⟨-, -, -, -, q⟩ := lab_de hg h0 hD hel hK hct h he
  have q := q c hc
  cases hz : L t with
  | none =>
    show betN _ (tO none) = true
    exact bet_far (by have := q.1.1; omega) tO_0
  | some z =>
    have q2 := (lab_de hg h0 hD hel hK hct h hz).1
    show betN _ (deT z) = decide (x + wtW ct c < z)
    rw [bet_en q.1 q2.1, q.2, q2.2]
