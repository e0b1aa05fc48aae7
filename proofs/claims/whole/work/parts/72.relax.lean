/-! least sums by steps in a group: labels, rounds -/
abbrev LB : Type := Nat → Option Nat
def leO (o : Option Nat) (x : Nat) : Prop := ∃ z, o = some z ∧ z ≤ x
/-- whether y betters a label -/
def btO (y : Nat) (o : Option Nat) : Bool := match o with
  | none => true
  | some z => decide (y < z)
/-- one step from e by edge k -/
def rxS (S : Nat → Nat → Nat) (el wt : Nat → Nat) (e k : Nat) (p : LB × Bool) : LB × Bool := match p.1 e with
  | none => p
  | some x => if btO (x + wt k) (p.1 (S e (el k))) = true then (xupd p.1 (S e (el k)) (some (x + wt k)), true) else p
def rxI (S : Nat → Nat → Nat) (el wt : Nat → Nat) (e n : Nat) (p : LB × Bool) : LB × Bool := xfo (fun k p => rxS S el wt e k p) n p
def rxR (S : Nat → Nat → Nat) (el wt : Nat → Nat) (K n : Nat) (p : LB × Bool) : LB × Bool := xfo (fun e p => rxI S el wt e K p) n p
theorem rxI_s (S : Nat → Nat → Nat) (el wt : Nat → Nat) (e n : Nat) (p : LB × Bool) : rxI S el wt e (n + 1) p = rxS S el wt e n (rxI S el wt e n p) := rfl
theorem rxR_s (S : Nat → Nat → Nat) (el wt : Nat → Nat) (K n : Nat) (p : LB × Bool) : rxR S el wt K (n + 1) p = rxI S el wt n K (rxR S el wt K n p) := rfl
def lb0 : LB := fun e => if e = 0 then some 0 else none
/-- labels behind n rounds; whether the next round changes them -/
def lbR (S : Nat → Nat → Nat) (el wt : Nat → Nat) (K D : Nat) : Nat → LB
  | 0 => lb0
  | n + 1 => (rxR S el wt K D (lbR S el wt K D n, false)).1
def lbC (S : Nat → Nat → Nat) (el wt : Nat → Nat) (K D n : Nat) : Bool := (rxR S el wt K D (lbR S el wt K D n, false)).2
/-- words, their last letter first: products, sums, products of what is ahead -/
def wpr (S : Nat → Nat → Nat) (el : Nat → Nat) : List Nat → Nat
  | [] => 0
  | k :: w => S (wpr S el w) (el k)
def wsm (wt : Nat → Nat) : List Nat → Nat
  | [] => 0
  | k :: w => wsm wt w + wt k
def wps (S : Nat → Nat → Nat) (el : Nat → Nat) : List Nat → List Nat
  | [] => [0]
  | k :: w => wpr S el (k :: w) :: wps S el w
def wpc (S : Nat → Nat → Nat) (el wt : Nat → Nat) (L : LB) : List Nat → Prop
  | [] => leO (L 0) 0
  | k :: w => leO (L (wpr S el (k :: w))) (wsm wt (k :: w)) ∧ wpc S el wt L w
section RX
variable {S : Nat → Nat → Nat} {el wt : Nat → Nat} {K D : Nat}
/-- labels only fall -/
def fal (L L' : LB) : Prop := ∀ e x, leO (L e) x → leO (L' e) x
theorem fal.rf (L : LB) : fal L L := fun _ _ h => h
theorem fal.tr {L L' L2 : LB} (h1 : fal L L') (h2 : fal L' L2) : fal L L2 := fun e x h => h2 e x (h1 e x h)
theorem fal_upd {L : LB} {t y : Nat} (h : btO y (L t) = true) : fal L (xupd L t (some y)) := by
  intro e x hx
  by_cases c : e = t
  · subst c
    obtain ⟨z, hz, hzx⟩ := hx
    rw [hz] at h
    simp only [btO, decide_eq_true_eq] at h
    exact ⟨y, xupd_eq, by omega⟩
  · rw [xupd_ne c]; exact hx
theorem rxS_fal (e k : Nat) (p : LB × Bool) : fal p.1 (rxS S el wt e k p).1 := by
  rw [rxS]
  split
  · exact fal.rf _
  · split
    · next h => exact fal_upd h
    · exact fal.rf _
theorem rxI_fal (e n : Nat) (p : LB × Bool) : fal p.1 (rxI S el wt e n p).1 := by
  induction n with
  | zero => exact fal.rf _
  | succ n ih => exact fal.tr ih (rxS_fal e n _)
theorem rxR_fal (n : Nat) (p : LB × Bool) : fal p.1 (rxR S el wt K n p).1 := by
  induction n with
  | zero => exact fal.rf _
  | succ n ih => exact fal.tr ih (rxI_fal n K _)
theorem leO_mono {o : Option Nat} {x y : Nat} (h : leO o x) (hxy : x ≤ y) : leO o y := by
  obtain ⟨z, hz, h1⟩ := h
  exact ⟨z, hz, by omega⟩
/-- behind a step the label at its end is no more than the sum -/
theorem rxS_le (e k : Nat) (p : LB × Bool) {x : Nat} (h : leO (p.1 e) x) : leO ((rxS S el wt e k p).1 (S e (el k))) (x + wt k) := by
  obtain ⟨z, hz, hzx⟩ := h
  rw [rxS, hz]
  dsimp only
  split
  · exact ⟨z + wt k, xupd_eq, by omega⟩
  · next h =>
    cases e1 : p.1 (S e (el k)) with
    | none => rw [e1] at h; exact absurd rfl h
    | some y =>
      rw [e1] at h
      simp only [btO, decide_eq_true_eq] at h
      exact ⟨y, rfl, by omega⟩
theorem rxI_le (e : Nat) (p : LB × Bool) {x : Nat} (h : leO (p.1 e) x) : ∀ n k, k < n → leO ((rxI S el wt e n p).1 (S e (el k))) (x + wt k) := by
  intro n
  induction n with
  | zero => intro k hk; omega
  | succ n ih =>
    intro k hk
    rw [rxI_s]
    by_cases c : k = n
    · subst c
      exact rxS_le e k _ (rxI_fal e k p e x h)
    · exact rxS_fal e n _ _ _ (ih k (by omega))
theorem rxR_le (p : LB × Bool) {e x k : Nat} (hk : k < K) (h : leO (p.1 e) x) : ∀ n, e < n → leO ((rxR S el wt K n p).1 (S e (el k))) (x + wt k) := by
  intro n
  induction n with
  | zero => intro he; omega
  | succ n ih =>
    intro he
    rw [rxR_s]
    by_cases c : e = n
    · subst c
      exact rxI_le e _ (rxR_fal e p e x h) K k hk
    · exact rxI_fal n K _ _ _ (ih (by omega))
theorem wpr_lt (hg : gLaw D S) (h0 : 0 < D) (hel : ∀ k, k < K → el k < D) : ∀ w : List Nat, (∀ k ∈ w, k < K) → wpr S el w < D
  | [], _ => h0
  | k :: w, hw => hg.1 _ _ (wpr_lt hg h0 hel w (fun j hj => hw j (List.mem_cons_of_mem _ hj))) (hel k (hw k List.mem_cons_self))
/-- behind n rounds no word of n letters does better -/
theorem lbR_le (hg : gLaw D S) (h0 : 0 < D) (hel : ∀ k, k < K → el k < D) : ∀ (n : Nat) (w : List Nat), w.length ≤ n → (∀ k ∈ w, k < K) → leO (lbR S el wt K D n (wpr S el w)) (wsm wt w) := by
  intro n
  induction n with
  | zero =>
    intro w hl hw
    cases w with
    | nil => exact ⟨0, rfl, Nat.le_refl _⟩
    | cons k w => simp at hl
  | succ n ih =>
    intro w hl hw
    cases w with
    | nil => exact rxR_fal D _ _ _ (ih [] (by simp) (fun k hk => by cases hk))
    | cons k w =>
      have hw' : ∀ j ∈ w, j < K := fun j hj => hw j (List.mem_cons_of_mem _ hj)
      exact rxR_le _ (hw k List.mem_cons_self) (ih w (by simpa using hl) hw') D (wpr_lt hg h0 hel w hw')
/-- a word whose sum a label is -/
def wGd (S : Nat → Nat → Nat) (el wt : Nat → Nat) (K : Nat) (L : LB) (w : List Nat) (e x : Nat) : Prop := (∀ k ∈ w, k < K) ∧ wpr S el w = e ∧ wsm wt w = x ∧ wpc S el wt L w ∧ (wps S el w).Nodup
def lInv (S : Nat → Nat → Nat) (el wt : Nat → Nat) (K D : Nat) (L : LB) : Prop := ∀ e x, L e = some x → e < D ∧ ∃ w, wGd S el wt K L w e x
theorem wpc_fal {L L' : LB} (h : fal L L') : ∀ w, wpc S el wt L w → wpc S el wt L' w
  | [], hw => h _ _ hw
  | _ :: w, hw => ⟨h _ _ hw.1, wpc_fal h w hw.2⟩
theorem wpc_mem {L : LB} {t : Nat} : ∀ w, wpc S el wt L w → t ∈ wps S el w → leO (L t) (wsm wt w)
  | [], hw, ht => by
    have : t = 0 := by simpa [wps] using ht
    rw [this]; exact hw
  | k :: w, hw, ht => by
    rcases List.mem_cons.mp ht with e | e
    · rw [e]; exact hw.1
    · exact leO_mono (wpc_mem w hw.2 e) (Nat.le_add_right _ _)
theorem wps_lt (hg : gLaw D S) (h0 : 0 < D) (hel : ∀ k, k < K → el k < D) : ∀ w : List Nat, (∀ k ∈ w, k < K) → ∀ t ∈ wps S el w, t < D
  | [], _, t, ht => by
    have : t = 0 := by simpa [wps] using ht
    omega
  | k :: w, hw, t, ht => by
    rcases List.mem_cons.mp ht with e | e
    · rw [e]; exact wpr_lt hg h0 hel (k :: w) hw
    · exact wps_lt hg h0 hel w (fun j hj => hw j (List.mem_cons_of_mem _ hj)) t e
theorem wps_len : ∀ w : List Nat, (wps S el w).length = w.length + 1
  | [] => rfl
  | _ :: w => by rw [wps, List.length_cons, wps_len w, List.length_cons]
theorem wGd_len (hg : gLaw D S) (h0 : 0 < D) (hel : ∀ k, k < K → el k < D) {L : LB} {w : List Nat} {e x : Nat} (h : wGd S el wt K L w e x) : w.length < D := by
  have h1 := h.2.2.2.2.length_le_of_subset (l₂ := List.range D) (fun t ht => List.mem_range.mpr (wps_lt hg h0 hel w h.1 t ht))
  rw [wps_len, List.length_range] at h1
  omega
theorem wGd_fal {L L' : LB} (h : fal L L') {w : List Nat} {e x : Nat} (hw : wGd S el wt K L w e x) : wGd S el wt K L' w e x := ⟨hw.1, hw.2.1, hw.2.2.1, wpc_fal h w hw.2.2.2.1, hw.2.2.2.2⟩
/-- a step that betters: its word -/
theorem wGd_step {L : LB} {w : List Nat} {e x k : Nat} (hk : k < K) (hw : wGd S el wt K L w e x) (hb : btO (x + wt k) (L (S e (el k))) = true) : wGd S el wt K (xupd L (S e (el k)) (some (x + wt k))) (k :: w) (S e (el k)) (x + wt k) := by
  have hf := fal_upd hb
  obtain ⟨h1, rfl, rfl, h4, h5⟩ := hw
  refine ⟨fun j hj => ?_, rfl, rfl, ⟨⟨_, xupd_eq, Nat.le_refl _⟩, wpc_fal hf w h4⟩, ?_⟩
  · rcases List.mem_cons.mp hj with z | z
    · rw [z]; exact hk
    · exact h1 j z
  · refine List.nodup_cons.mpr ⟨fun z => ?_, h5⟩
    obtain ⟨y, hy, hyx⟩ := wpc_mem w h4 z
    have hb2 : btO (wsm wt w + wt k) (L (wpr S el (k :: w))) = true := hb
    rw [hy] at hb2
    simp only [btO, decide_eq_true_eq] at hb2
    omega
theorem rxS_inv (hg : gLaw D S) (hel : ∀ k, k < K → el k < D) {e k : Nat} (hk : k < K) {p : LB × Bool} (h : lInv S el wt K D p.1) : lInv S el wt K D (rxS S el wt e k p).1 := by
  rw [rxS]
  split
  · exact h
  · next x hx =>
    split
    · next hb =>
      intro e' x' he'
      obtain ⟨heD, w, hw⟩ := h e x hx
      by_cases c : e' = S e (el k)
      · subst c
        have e1 : xupd p.1 (S e (el k)) (some (x + wt k)) (S e (el k)) = some (x + wt k) := xupd_eq
        have e2 : some (x + wt k) = some x' := e1.symm.trans he'
        cases e2
        exact ⟨hg.1 _ _ heD (hel k hk), _, wGd_step hk hw hb⟩
      · have e1 : xupd p.1 (S e (el k)) (some (x + wt k)) e' = p.1 e' := xupd_ne c
        obtain ⟨h1, w', h2⟩ := h e' x' (e1.symm.trans he')
        exact ⟨h1, w', wGd_fal (fal_upd hb) h2⟩
    · exact h
theorem rxI_inv (hg : gLaw D S) (hel : ∀ k, k < K → el k < D) {e : Nat} {p : LB × Bool} (h : lInv S el wt K D p.1) : ∀ n, n ≤ K → lInv S el wt K D (rxI S el wt e n p).1 := by
  intro n
  induction n with
  | zero => exact fun _ => h
  | succ n ih => exact fun hn => rxS_inv hg hel (by omega) (ih (by omega))
theorem rxR_inv (hg : gLaw D S) (hel : ∀ k, k < K → el k < D) {p : LB × Bool} (h : lInv S el wt K D p.1) : ∀ n, lInv S el wt K D (rxR S el wt K n p).1 := by
  intro n
  induction n with
  | zero => exact h
  | succ n ih => exact rxI_inv hg hel ih K (Nat.le_refl _)
theorem lbR_inv (hg : gLaw D S) (h0 : 0 < D) (hel : ∀ k, k < K → el k < D) : ∀ n, lInv S el wt K D (lbR S el wt K D n) := by
  intro n
  induction n with
  | zero =>
    intro e x he
    have he : (if e = 0 then some 0 else none) = some x := he
    split at he
    · next c =>
      cases he
      refine ⟨by omega, [], ?_⟩
      unfold wGd
      exact ⟨fun k hk => (List.not_mem_nil hk).elim, c.symm, rfl, ⟨0, rfl, Nat.le_refl _⟩, by simp [wps]⟩
    · cases he
  | succ n ih => exact rxR_inv hg hel ih D
/-- where words of all lengths below D do no better, no step betters -/
theorem no_better (hg : gLaw D S) (h0 : 0 < D) (hel : ∀ k, k < K → el k < D) {L : LB} (hi : lInv S el wt K D L) (hl : ∀ w : List Nat, w.length < D → (∀ k ∈ w, k < K) → leO (L (wpr S el w)) (wsm wt w)) {e k x : Nat} (hk : k < K) (hx : L e = some x) : btO (x + wt k) (L (S e (el k))) = false := by
  cases hb : btO (x + wt k) (L (S e (el k))) with
  | false => rfl
  | true =>
    obtain ⟨-, w, hw⟩ := hi e x hx
    have h1 := wGd_step hk hw hb
    have h2 := wGd_len hg h0 hel h1
    have h3 := hl (k :: w) h2 h1.1
    obtain ⟨y, hy, hyx⟩ := h3
    rw [h1.2.1] at hy
    rw [h1.2.2.1] at hyx
    rw [hy] at hb
    simp only [btO, decide_eq_true_eq] at hb
    omega
theorem rxS_no {L : LB} {e k : Nat} (h : ∀ x, L e = some x → btO (x + wt k) (L (S e (el k))) = false) : rxS S el wt e k (L, false) = (L, false) := by
  rw [rxS]
  split
  · rfl
  · next x hx =>
    have hx : L e = some x := hx
    rw [if_neg (by show ¬ btO (x + wt k) (L (S e (el k))) = true; rw [h x hx]; exact Bool.false_ne_true)]
theorem rxR_no {L : LB} (h : ∀ e k x, k < K → L e = some x → btO (x + wt k) (L (S e (el k))) = false) : ∀ n, rxR S el wt K n (L, false) = (L, false) := by
  have h1 : ∀ e n, n ≤ K → rxI S el wt e n (L, false) = (L, false) := by
    intro e n
    induction n with
    | zero => exact fun _ => rfl
    | succ n ih =>
      intro hn
      rw [rxI_s, ih (by omega)]
      exact rxS_no (fun x hx => h e n x (by omega) hx)
  intro n
  induction n with
  | zero => rfl
  | succ n ih => rw [rxR_s, ih]; exact h1 n K (Nat.le_refl _)
/-- behind D - 1 rounds nothing changes any more -/
theorem lb_fix (hg : gLaw D S) (h0 : 0 < D) (hel : ∀ k, k < K → el k < D) {n : Nat} (hn : D ≤ n + 1) : rxR S el wt K D (lbR S el wt K D n, false) = (lbR S el wt K D n, false) :=
  rxR_no (fun e k x hk hx => no_better hg h0 hel (lbR_inv hg h0 hel n) (fun w hl hw => lbR_le hg h0 hel n w (by omega) hw) hk hx) D
/-- a round that tells no change changed nothing -/
theorem rxS_ff {e k : Nat} {p : LB × Bool} (h : (rxS S el wt e k p).2 = false) : rxS S el wt e k p = p := by
  rw [rxS] at h ⊢
  split
  · rfl
  · next x hx =>
    rw [hx] at h
    dsimp only at h
    split
    · next hb => rw [if_pos hb] at h; cases h
    · rfl
theorem rxI_ff {e : Nat} {p : LB × Bool} : ∀ n, (rxI S el wt e n p).2 = false → rxI S el wt e n p = p := by
  intro n
  induction n with
  | zero => exact fun _ => rfl
  | succ n ih =>
    intro h
    rw [rxI_s] at h ⊢
    have h1 := rxS_ff h
    rw [h1] at h ⊢
    exact ih h
theorem rxR_ff {p : LB × Bool} : ∀ n, (rxR S el wt K n p).2 = false → rxR S el wt K n p = p := by
  intro n
  induction n with
  | zero => exact fun _ => rfl
  | succ n ih =>
    intro h
    rw [rxR_s] at h ⊢
    have h1 := rxI_ff K h
    rw [h1] at h ⊢
    exact ih h
theorem lb_stay {n : Nat} (h : lbC S el wt K D n = false) : ∀ m, lbR S el wt K D (n + m) = lbR S el wt K D n := by
  have h1 : (rxR S el wt K D (lbR S el wt K D n, false)).1 = lbR S el wt K D n := congrArg Prod.fst (rxR_ff D h)
  intro m
  induction m with
  | zero => rfl
  | succ m ih =>
    show (rxR S el wt K D (lbR S el wt K D (n + m), false)).1 = _
    rw [ih]; exact h1
end RX
/-- the labels at the end -/
def lbF (S : Nat → Nat → Nat) (el wt : Nat → Nat) (K D : Nat) : LB := lbR S el wt K D D
theorem lb_end {S : Nat → Nat → Nat} {el wt : Nat → Nat} {K D n : Nat} (hg : gLaw D S) (h0 : 0 < D) (hel : ∀ k, k < K → el k < D) (h : lbC S el wt K D n = false ∨ D ≤ n + 1) : lbR S el wt K D n = lbF S el wt K D := by
  have h' : lbC S el wt K D n = false := by
    rcases h with h | h
    · exact h
    · rw [lbC, lb_fix hg h0 hel h]
  rcases Nat.le_total n D with c | c
  · have := lb_stay h' (D - n)
    rw [show n + (D - n) = D by omega] at this
    exact this.symm
  · have hD : lbC S el wt K D D = false := by rw [lbC, lb_fix hg h0 hel (by omega)]
    have := lb_stay hD (n - D)
    rw [show D + (n - D) = n by omega] at this
    exact this
