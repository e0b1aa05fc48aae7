/-! rows for the heap: fields, arrays, new ones -/
theorem xin_b : vwCl.all (fun r => (u_ws r.1 r.2.1 r.2.2).all (fun u => decide (u ∈ xG))) = true := by decide +kernel
theorem xin {ci : Nat} {r : vw_C} (hr : vwCl[ci]? = some r) : ∀ u ∈ u_ws r.1 r.2.1 r.2.2, u ∈ xG := fun u hu =>
  of_decide_eq_true (List.all_eq_true.mp (List.all_eq_true.mp xin_b r (List.mem_of_getElem? hr)) u hu)
def xtyB (r : vw_C) (k : Nat) : FieldType := (parseFieldDescriptor (r.2.1 k).2.2.1).getD .int
theorem xtyB_b : vwCl.all (fun r => (List.range r.2.2).all (fun k => decide (parseFieldDescriptor (r.2.1 k).2.2.1 = some (xtyB r k)) && decide ((r.2.1 k).1 = r.1) && (List.range r.2.2).all (fun j => decide (k = j) || decide ((r.2.1 k).2.1 ≠ (r.2.1 j).2.1)))) = true := by decide +kernel
theorem xtyB_row {ci : Nat} {r : vw_C} (hr : vwCl[ci]? = some r) {k : Nat} (hk : k < r.2.2) : parseFieldDescriptor (r.2.1 k).2.2.1 = some (xtyB r k) ∧ (r.2.1 k).1 = r.1 ∧ ∀ j, j < r.2.2 → k ≠ j → (r.2.1 k).2.1 ≠ (r.2.1 j).2.1 := by
  have h1 := List.all_eq_true.mp (List.all_eq_true.mp xtyB_b r (List.mem_of_getElem? hr)) k (List.mem_range.mpr hk)
  simp only [Bool.and_eq_true, decide_eq_true_eq] at h1
  refine ⟨h1.1.1, h1.1.2, fun j hj hne => ?_⟩
  have h2 := List.all_eq_true.mp h1.2 j (List.mem_range.mpr hj)
  simp only [Bool.or_eq_true, decide_eq_true_eq] at h2
  exact h2.resolve_left hne
/-- a field's link: own class, pool number, class and slot -/
def xflc (own : String) (i : Nat) (r : vw_C) (k : Nat) : Cond := .fieldLink own i (r.2.1 k).1 (r.2.1 k).2.1 (r.2.1 k).2.2.1
def xfnc (own : String) (i : Nat) (r : vw_C) (k : Nat) : Cond := .fieldLinkNest own i (r.2.1 k).1 (r.2.1 k).2.1 (r.2.1 k).2.2.1 "CornerCuts"
def xfl (own : String) (i ci k : Nat) : Bool := match vwCl[ci]? with
  | some r => decide (k < r.2.2) && (decide (xflc own i r k ∈ xG) || decide (xfnc own i r k ∈ xN))
  | none => false
theorem xfl_row {own : String} {i ci k : Nat} (hf : xfl own i ci k = true) : ∃ r : vw_C, vwCl[ci]? = some r ∧ k < r.2.2 ∧ (xflc own i r k ∈ xG ∨ xfnc own i r k ∈ xN) := by
  unfold xfl at hf
  split at hf
  · next r hr =>
    simp only [Bool.and_eq_true, Bool.or_eq_true, decide_eq_true_eq] at hf
    exact ⟨r, hr, hf.1, hf.2⟩
  · cases hf
theorem Rp.P1 {w : xW} {h : AH} {H : Heap} (hR : Rp w h H) {a ci : Nat} {fs : List Value} (hc : h.2 a = some (.inr (ci, fs))) : va_P w.2.1 vwCl [(w.1.size + a, .inr (ci, fs.map (xtr w)))] H := by
  intro k q hk
  cases k with
  | zero => cases hk; exact hR.2.2 a _ hc
  | succ k => simp at hk
theorem Rp.P2 {w : xW} {h : AH} {H : Heap} (hR : Rp w h H) {a : Nat} {ty : FieldType} {x : vp_A} (hc : h.2 a = some (.inl (ty, x))) : va_P w.2.1 vwCl [(w.1.size + a, .inl (w.2.2.1 ty, xtA w x))] H := by
  intro k q hk
  cases k with
  | zero => cases hk; exact hR.2.2 a _ hc
  | succ k => simp at hk
/-- whether a value may lie in a field or array of a type -/
def xfit (ty : FieldType) (v : Value) : Bool := match ty, v with
  | .int, .int _ => true
  | .boolean, .int x => decide (x = 0) || decide (x = 1)
  | .long, .long _ => true
  | .object _, .ref _ => true
  | .object _, .null => true
  | .array _, .ref _ => true
  | .array _, .null => true
  | _, _ => false
theorem xfit_ok {w : xW} {ty : FieldType} {v : Value} (h : xfit ty v = true) : narrow ty (xtr w v) = xtr w v ∧ fits ty (xtr w v) = true := by
  unfold xfit at h
  split at h
  all_goals first
    | (cases h; done)
    | (refine ⟨rfl, rfl⟩; done)
    | (simp only [Bool.or_eq_true, decide_eq_true_eq] at h; rcases h with rfl | rfl
       · exact (by decide : narrow .boolean (.int 0) = .int 0 ∧ fits .boolean (.int 0) = true)
       · exact (by decide : narrow .boolean (.int 1) = .int 1 ∧ fits .boolean (.int 1) = true))
section XH
variable {X : xCtx} {pc : Nat} {L st : List Value} {k : Nat × Nat} {h : AH}
theorem x_get (C : xOK X) {i ci kx a : Nat} {fs : List Value} {v : Value} (hf : xfl (xown X) i ci kx = true) (hc : h.2 a = some (.inr (ci, fs))) (hv : fs[kx]? = some v) (d : ck (xcc X) pc (.getfield i) 3 = true) (kk : xAt X (pc + 3) L (v :: st) k h) : xAt X pc L (.ref a :: st) k h := by
  obtain ⟨w, ⟨cc, own, yn, ret, mc, ms, rf, rl⟩, Rt, p, l, e, R, s, m, args, below, meth, c, Q⟩ := X
  intro k1 k2 hn H locs ls hR hl hL
  obtain ⟨r, hr, hk, hlk⟩ := xfl_row hf
  have hv' : (fs.map (xtr w))[kx]? = some (xtr w v) := by rw [List.getElem?_map, hv]; rfl
  rcases hlk with hlk | hlk
  · exact va_get (C := r.1) (T := r.2.1) (N := r.2.2) C.1 C.2.1 C.2.2.2.1 (xin hr) C.2.2.1 C.2.2.2.2.1.1 (hR.P1 hc) 0 rfl hr kx hk (C.2.2.2.1 _ hlk) (fun _ z => z) hv' (ckd d) (kk k1 k2 hn H locs ls hR hl hL)
  · exact va_getN (C := r.1) (T := r.2.1) (N := r.2.2) C.1 C.2.1 C.2.2.2.1 (xin hr) C.2.2.1 C.2.2.2.2.1.1 (hR.P1 hc) 0 rfl hr kx hk (va_Nw.use rfl (C.2.2.2.2.1.2.1 _ hlk)) (fun _ z => z) hv' (ckd d) (kk k1 k2 hn H locs ls hR hl hL)
theorem x_locs {w : xW} {locs : List Loc} (hl : ∀ q ∈ locs, xfree w q.base) (a i : Nat) : ∀ q ∈ locs ++ [⟨w.1.size + a, i⟩], xfree w q.base := by
  intro q hq
  rcases List.mem_append.mp hq with z | z
  · exact hl q z
  · rw [List.mem_singleton] at z
    subst z
    exact Nat.le_add_right _ _
def xfin (S : String × String) (ci k : Nat) : Bool := match vwCl[ci]? with
  | some r => !(r.2.1 k).2.2.2 || (decide (S.2 = "<init>") && decide (r.1 = S.1))
  | none => false
theorem x_put (C : xOK X) {i ci kx a : Nat} {fs : List Value} {v : Value} (hf : xfl (xown X) i ci kx = true) (hfi : xfin (xown X, (xst X).2.1.1) ci kx = true) (hc : h.2 a = some (.inr (ci, fs))) (hlen : kx < fs.length) (hft : ∀ r : vw_C, vwCl[ci]? = some r → xfit (xtyB r kx) v = true) (d : ck (xcc X) pc (.putfield i) 3 = true) (kk : xAt X (pc + 3) L st k (xput h a (.inr (ci, fs.set kx v)))) : xAt X pc L (v :: .ref a :: st) k h := by
  obtain ⟨w, ⟨cc, own, yn, ret, mc, ms, rf, rl⟩, Rt, p, l, e, R, s, m, args, below, meth, c, Q⟩ := X
  intro k1 k2 hn H locs ls hR hl hL
  obtain ⟨r, hr, hk, hlk⟩ := xfl_row hf
  obtain ⟨hx, hb, hown, hts, hKK, -, hyn, -⟩ := C
  have hap := va_apart (own := own) hts (xin hr) (xtyB r) (fun j hj => (xtyB_row hr hj).1) (fun a ha b hb hne => (xtyB_row hr ha).2.2 b hb hne) hKK.1 (ci := ci) hr
  obtain ⟨r', h1, cell, q1, q2, q3, q4⟩ := hR.2.2 a _ hc
  have e1 : r' = r := Option.some.inj (h1.symm.trans hr)
  subst e1
  obtain ⟨hS, hfc, kC, hkC, hkind⟩ := hKK.1.1 ci _ hr
  obtain ⟨cf, kf, fi, f, hi, hsl⟩ := hS kx hk
  have hlay := hts _ (xin hr _ (u_in_lay hk))
  have hst := (u_facts hfc hkC (u_lays hts (xin hr) hk) hi).1
  obtain ⟨hn1, hf1⟩ := xfit_ok (w := w) (hft r' hr)
  have hty := (xtyB_row hr hk).1
  have fin : ∀ (H' : Heap), H'[w.1.size + a]? = some (cell.setSlot (w.2.1.2 ci kx) (xtr w v)) → H'.size = H.size → (∀ q, q ≠ w.1.size + a → H'[q]? = H[q]?) → Rp w (xput h a (.inr (ci, fs.set kx v))) H' := by
    intro H' e1 e2 e3
    refine hR.put ⟨_, hr, t_OB.to (V := updV (vp_V (fs.map (xtr w))) kx (xtr w v)) ⟨_, e1, q2, q3, t_set q4 hap hk (xtr w v)⟩ (fun j _ => ?_)⟩ e2 e3
    rw [vp_updV_set (by rw [List.length_map]; exact hlen), ← List.map_set]
  unfold u_lay at hlay
  cases hfl : (r'.2.1 kx).2.2.2 with
  | false =>
    rw [if_neg (by rw [hfl]; decide)] at hlay
    have h6 := u_store hfc hkC hkind hlay hi hty hn1 hf1
    rcases hlk with hlk | hlk
    · refine W.putK hx hb (f := f) ⟨hown, hts _ hlk, ⟨_, _, _, hi⟩, hst⟩ (by rw [q2]; exact h6) q1 q3 (by rw [hsl]; exact k2_hasslot (q4 kx hk)) rfl rfl (ckd d) fun H' e1 e2 e3 => ?_
      rw [hsl] at e1 ⊢
      exact kk k1 k2 hn H' _ ls (fin H' e1 e2 e3) (x_locs hl _ _) hL
    · refine va_WputK hx hb (f := f) hown (va_Nw.use rfl (hKK.2.1 _ hlk)) hi hst (by rw [q2]; exact h6) q1 q3 (by rw [hsl]; exact k2_hasslot (q4 kx hk)) rfl rfl (ckd d) fun H' e1 e2 e3 => ?_
      rw [hsl] at e1 ⊢
      exact kk k1 k2 hn H' _ ls (fin H' e1 e2 e3) (x_locs hl _ _) hL
  | true =>
    rw [if_pos hfl] at hlay
    simp only [xfin, hr, hfl, Bool.not_true, Bool.false_or, Bool.and_eq_true, decide_eq_true_eq] at hfi
    have hdecl : (r'.2.1 kx).1 = own := ((xtyB_row hr hk).2.1).trans hfi.2
    have hcf : m.cls = cf := by
      obtain ⟨_, _, c', _, _, _, -, -, hf', -, -, -, hown2, -⟩ := Cond.laysFinal_spec hlay
      have e1 : c' = cf := by have := hi.symm.trans hf'; simp at this; exact this.1.symm
      rw [hdecl] at hown2
      rw [← e1]; exact Option.some.inj (hown.symm.trans hown2)
    have h6 := u_fits hfc hkC hkind (Or.inr hlay) hi hty hn1 hf1
    have hin2 : meth.name = "<init>" := hyn.trans hfi.1
    rcases hlk with hlk | hlk
    · refine W.putFinK hx hb hown (hts _ hlk) hi hst hcf hin2 (by rw [q2]; exact h6) q1 q3 (by rw [hsl]; exact k2_hasslot (q4 kx hk)) rfl rfl (ckd d) fun H' e1 e2 e3 => ?_
      rw [hsl] at e1 ⊢
      exact kk k1 k2 hn H' _ ls (fin H' e1 e2 e3) (x_locs hl _ _) hL
    · refine va_Wputf hx hb hown (va_Nw.use rfl (hKK.2.1 _ hlk)) hi hst (Or.inr ⟨hcf, hin2⟩) q1 (by rw [q3]; exact fun z => by cases z) (by rw [hsl]; exact k2_hasslot (q4 kx hk)) h6.1 (by rw [q2, q3]; exact h6.2) rfl rfl (ckd d) ?_
      have ha : w.1.size + a < H.size := (Array.getElem?_eq_some_iff.mp q1).1
      rw [hsl]
      exact kk k1 k2 hn _ _ ls (fin _ (by simp [Array.getElem?_setIfInBounds, ha]) (by simp) (fun q hq => by simp [Array.getElem?_setIfInBounds, Ne.symm hq])) (x_locs hl _ _) hL
end XH
