/-! rows for arrays and new cells -/
def xupd {α : Type} (f : Nat → α) (k : Nat) (x : α) : Nat → α := fun j => if j = k then x else f j
def xinb (i : Int32) (n : Nat) : Bool := decide (0 ≤ i) && decide (i.toNatClampNeg < n)
theorem xinb_vp {i : Int32} {n : Nat} (h : xinb i n = true) : vp_in i n := by
  simp only [xinb, Bool.and_eq_true, decide_eq_true_eq] at h
  rintro (z | z)
  · exact absurd h.1 (Int32.not_le.mpr z)
  · omega
theorem xcell_upd {α : Type} {mk : α → Value} {cA : ClassId} {n : Nat} {f : Nat → α} {j : Nat} {x : α} : (arrV cA n (fun j => mk (f j))).setSlot j (mk x) = arrV cA n (fun q => mk (xupd f j x q)) := by
  rw [arrV_store]
  congr 1
  funext q
  by_cases hq : q = j
  · subst hq
    simp [updV, xupd]
  · simp [updV, xupd, hq]
section XA
variable {X : xCtx} {pc : Nat} {L st : List Value} {k : Nat × Nat} {h : AH}
theorem x_iald (C : xOK X) {a n : Nat} {f : Nat → Int32} {i : Int32} (hc : h.2 a = some (.inl (.int, n, .inl f))) (hi : xinb i n = true) (d : ck (xcc X) pc .iaload 1 = true) (kk : xAt X (pc + 1) L (.int (f i.toNatClampNeg) :: st) k h) : xAt X pc L (.int i :: .ref a :: st) k h := by
  obtain ⟨w, ⟨cc, own, yn, ret, mc, ms, rf, rl⟩, Rt, p, l, e, R, s, m, args, below, meth, c, Q⟩ := X
  exact fun k1 k2 hn H locs ls hR hl hL => va_iald C.1 C.2.1 C.2.2.2.2.1.1 (hR.P2 hc) 0 0 rfl rfl (xinb_vp hi) (ckd d) (kk k1 k2 hn H locs ls hR hl hL)
theorem x_lald (C : xOK X) {a n : Nat} {f : Nat → Int64} {i : Int32} (hc : h.2 a = some (.inl (.long, n, .inr (.inl f)))) (hi : xinb i n = true) (d : ck (xcc X) pc .laload 1 = true) (kk : xAt X (pc + 1) L (.long (f i.toNatClampNeg) :: st) k h) : xAt X pc L (.int i :: .ref a :: st) k h := by
  obtain ⟨w, ⟨cc, own, yn, ret, mc, ms, rf, rl⟩, Rt, p, l, e, R, s, m, args, below, meth, c, Q⟩ := X
  exact fun k1 k2 hn H locs ls hR hl hL => va_lald C.1 C.2.1 C.2.2.2.2.1.1 (hR.P2 hc) 0 1 rfl rfl (xinb_vp hi) (ckd d) (kk k1 k2 hn H locs ls hR hl hL)
theorem x_zald (C : xOK X) {a n : Nat} {f : Nat → Int32} {i : Int32} (hc : h.2 a = some (.inl (.boolean, n, .inl f))) (hi : xinb i n = true) (d : ck (xcc X) pc .baload 1 = true) (kk : xAt X (pc + 1) L (.int (f i.toNatClampNeg) :: st) k h) : xAt X pc L (.int i :: .ref a :: st) k h := by
  obtain ⟨w, ⟨cc, own, yn, ret, mc, ms, rf, rl⟩, Rt, p, l, e, R, s, m, args, below, meth, c, Q⟩ := X
  exact fun k1 k2 hn H locs ls hR hl hL => va_zald C.1 C.2.1 C.2.2.2.2.1.1 (hR.P2 hc) 0 2 rfl rfl (xinb_vp hi) (ckd d) (kk k1 k2 hn H locs ls hR hl hL)
def xrfv (r : Option Nat) : Value := match r with
  | none => .null
  | some a => .ref a
theorem x_aald (C : xOK X) {a n t0 : Nat} {cn : String} {f : Nat → Option Nat} {i : Int32} (ht : xty[t0]? = some (.object cn)) (hc : h.2 a = some (.inl (.object cn, n, .inr (.inr (.inr (.inr f)))))) (hi : xinb i n = true) (d : ck (xcc X) pc .aaload 1 = true) (kk : xAt X (pc + 1) L (xrfv (f i.toNatClampNeg) :: st) k h) : xAt X pc L (.int i :: .ref a :: st) k h := by
  obtain ⟨w, ⟨cc, own, yn, ret, mc, ms, rf, rl⟩, Rt, p, l, e, R, s, m, args, below, meth, c, Q⟩ := X
  intro k1 k2 hn H locs ls hR hl hL
  have hty : (xty.map (fun t => (w.2.2.1 t, t)))[t0]? = some (w.2.2.1 (.object cn), .object cn) := by rw [List.getElem?_map, ht]; rfl
  refine va_aldq C.1 C.2.1 C.2.2.2.2.1.1 (hR.P2 hc) 0 t0 rfl hty (xinb_vp hi) (ckd d) ?_
  have e1 : va_rf ((f i.toNatClampNeg).map (fun a => w.1.size + a)) = xtr w (xrfv (f i.toNatClampNeg)) := by cases f i.toNatClampNeg <;> rfl
  rw [e1]
  exact kk k1 k2 hn H locs ls hR hl hL
theorem x_alen (C : xOK X) {a t0 : Nat} {ty : FieldType} {x : vp_A} (ht : xty[t0]? = some ty) (hc : h.2 a = some (.inl (ty, x))) (d : ck (xcc X) pc .arraylength 1 = true) (kk : xAt X (pc + 1) L (.int (Int32.ofNat x.1) :: st) k h) : xAt X pc L (.ref a :: st) k h := by
  obtain ⟨w, ⟨cc, own, yn, ret, mc, ms, rf, rl⟩, Rt, p, l, e, R, s, m, args, below, meth, c, Q⟩ := X
  intro k1 k2 hn H locs ls hR hl hL
  have hty : (xty.map (fun t => (w.2.2.1 t, t)))[t0]? = some (w.2.2.1 ty, ty) := by rw [List.getElem?_map, ht]; rfl
  have e1 : (xtA w x).1 = x.1 := by unfold xtA; split <;> rfl
  have hl2 : ∃ v, vp_cell (w.2.2.1 ty) (xtA w x) = arrV (w.2.2.1 ty) x.1 v := by
    rw [← e1]
    generalize xtA w x = y
    obtain ⟨n, f | f | f | f | f⟩ := y
    · exact ⟨_, vp_cell_i _ _ _⟩
    · exact ⟨_, vp_cell_l _ _ _⟩
    · exact ⟨_, vp_cell_f _ _ _⟩
    · exact ⟨_, vp_cell_d _ _ _⟩
    · exact ⟨_, vp_cell_q _ _ _⟩
  obtain ⟨v, hv⟩ := hl2
  refine W.alen C.1 C.2.1 (hR.2.2 a _ hc) (ty := ty) (by rw [hv]; exact (C.2.2.2.2.1.1.2 t0 _ hty).1 x.1 v) (n := Int32.ofNat x.1) ?_ rfl rfl (ckd d) (kk k1 k2 hn H locs ls hR hl hL)
  rw [hv, arrV_size]
theorem x_iast (C : xOK X) {a n : Nat} {f : Nat → Int32} {i x : Int32} (hc : h.2 a = some (.inl (.int, n, .inl f))) (hi : xinb i n = true) (d : ck (xcc X) pc .iastore 1 = true) (kk : xAt X (pc + 1) L st k (xput h a (.inl (.int, n, .inl (xupd f i.toNatClampNeg x))))) : xAt X pc L (.int x :: .int i :: .ref a :: st) k h := by
  obtain ⟨w, ⟨cc, own, yn, ret, mc, ms, rf, rl⟩, Rt, p, l, e, R, s, m, args, below, meth, c, Q⟩ := X
  intro k1 k2 hn H locs ls hR hl hL
  have hK := C.2.2.2.2.1.1
  have ht0 : (xty.map (fun t => (w.2.2.1 t, t)))[0]? = some (w.2.2.1 .int, .int) := rfl
  refine W.iast C.1 C.2.1 (hR.2.2 a _ hc) ((hK.2 0 _ ht0).1 n (fun j => .int (f j))) (fun q => by cases q) (by show ¬ (i < 0 ∨ (arrV _ _ _).slots.size ≤ _); rw [arrV_size]; exact xinb_vp hi) rfl rfl (ckd d) fun H1 e1 z oq => ?_
  refine kk k1 k2 hn H1 _ ls (hR.put ?_ z oq) (x_locs hl _ _) hL
  show H1[_]? = some (vp_cell _ _)
  rw [e1]
  exact congrArg some xcell_upd
theorem x_last (C : xOK X) {a n : Nat} {f : Nat → Int64} {i : Int32} {x : Int64} (hc : h.2 a = some (.inl (.long, n, .inr (.inl f)))) (hi : xinb i n = true) (d : ck (xcc X) pc .lastore 1 = true) (kk : xAt X (pc + 1) L st k (xput h a (.inl (.long, n, .inr (.inl (xupd f i.toNatClampNeg x)))))) : xAt X pc L (.long x :: .int i :: .ref a :: st) k h := by
  obtain ⟨w, ⟨cc, own, yn, ret, mc, ms, rf, rl⟩, Rt, p, l, e, R, s, m, args, below, meth, c, Q⟩ := X
  intro k1 k2 hn H locs ls hR hl hL
  have hK := C.2.2.2.2.1.1
  have ht0 : (xty.map (fun t => (w.2.2.1 t, t)))[1]? = some (w.2.2.1 .long, .long) := rfl
  refine W.last C.1 C.2.1 (hR.2.2 a _ hc) ((hK.2 1 _ ht0).1 n (fun j => .long (f j))) (fun q => by cases q) (by show ¬ (i < 0 ∨ (arrV _ _ _).slots.size ≤ _); rw [arrV_size]; exact xinb_vp hi) rfl rfl (ckd d) fun H1 e1 z oq => ?_
  refine kk k1 k2 hn H1 _ ls (hR.put ?_ z oq) (x_locs hl _ _) hL
  show H1[_]? = some (vp_cell _ _)
  rw [e1]
  exact congrArg some xcell_upd
theorem x_zast (C : xOK X) {a n : Nat} {f : Nat → Int32} {i x : Int32} (hx : xfit .boolean (.int x) = true) (hc : h.2 a = some (.inl (.boolean, n, .inl f))) (hi : xinb i n = true) (d : ck (xcc X) pc .bastore 1 = true) (kk : xAt X (pc + 1) L st k (xput h a (.inl (.boolean, n, .inl (xupd f i.toNatClampNeg x))))) : xAt X pc L (.int x :: .int i :: .ref a :: st) k h := by
  obtain ⟨w, ⟨cc, own, yn, ret, mc, ms, rf, rl⟩, Rt, p, l, e, R, s, m, args, below, meth, c, Q⟩ := X
  intro k1 k2 hn H locs ls hR hl hL
  have hK := C.2.2.2.2.1.1
  have ht0 : (xty.map (fun t => (w.2.2.1 t, t)))[2]? = some (w.2.2.1 .boolean, .boolean) := rfl
  refine W.zast C.1 C.2.1 (hR.2.2 a _ hc) ((hK.2 2 _ ht0).1 n (fun j => .int (f j))) (fun q => by cases q) (by show ¬ (i < 0 ∨ (arrV _ _ _).slots.size ≤ _); rw [arrV_size]; exact xinb_vp hi) rfl rfl (ckd d) fun H1 e1 z oq => ?_
  refine kk k1 k2 hn H1 _ ls (hR.put ?_ z oq) (x_locs hl _ _) hL
  show H1[_]? = some (vp_cell _ _)
  rw [e1, show narrow .boolean (.int x) = .int x from (xfit_ok (w := w) hx).1]
  exact congrArg some xcell_upd
theorem xtr_rf (w : xW) (r : Option Nat) : xtr w (xrfv r) = va_rf (r.map (fun a => w.1.size + a)) := by cases r <;> rfl
theorem x_aast (C : xOK X) {a n t0 : Nat} {r0 : vw_C} {f : Nat → Option Nat} {i : Int32} {v ci : Nat} {vs : List Value} (hr0 : vwCl[ci]? = some r0) (ht : xty[t0]? = some (.object r0.1)) (hv : h.2 v = some (.inr (ci, vs))) (hc : h.2 a = some (.inl (.object r0.1, n, .inr (.inr (.inr (.inr f)))))) (hi : xinb i n = true) (d : ck (xcc X) pc .aastore 1 = true) (kk : xAt X (pc + 1) L st k (xput h a (.inl (.object r0.1, n, .inr (.inr (.inr (.inr (xupd f i.toNatClampNeg (some v))))))))) : xAt X pc L (.ref v :: .int i :: .ref a :: st) k h := by
  obtain ⟨w, ⟨cc, own, yn, ret, mc, ms, rf, rl⟩, Rt, p, l, e, R, s, m, args, below, meth, c, Q⟩ := X
  intro k1 k2 hn H locs ls hR hl hL
  have hK := C.2.2.2.2.1.1
  have hty : (xty.map (fun t => (w.2.2.1 t, t)))[t0]? = some (w.2.2.1 (.object r0.1), .object r0.1) := by rw [List.getElem?_map, ht]; rfl
  have hin := xinb_vp hi
  have hlt : i.toNatClampNeg < n := Nat.not_le.mp fun q => hin (Or.inr q)
  have h0 : ¬ i < 0 := fun q => hin (Or.inl q)
  obtain ⟨r', hr', cellV, g1, g2, g3, -⟩ := hR.2.2 v _ hv
  have hcls := (hK.1 ci r0 hr0).2
  obtain ⟨kA, comp, q1, q2, q3, -⟩ := (hK.2 t0 _ hty).2
  have hcomp : comp = w.2.1.1 ci := Option.some.inj (q3.symm.trans hcls.1)
  subst hcomp
  obtain ⟨kC, hkC, -⟩ := hcls.2
  refine W.aast C.1 C.2.1 (hR.2.2 a _ hc) (fun q z => by cases z) (fun z => by cases z) q1 q2 rfl hkC ⟨h0, by show _ < (arrV _ _ _).slots.size; rw [arrV_size]; exact hlt⟩ g1 (fun q z => by rw [g3] at z; cases z) (by rw [g2]; exact hkC) (by rw [g2]; exact va_assign hcls) rfl rfl (ckd d) fun H1 e1 z oq => ?_
  refine kk k1 k2 hn H1 _ ls (hR.put ?_ z oq) (x_locs hl _ _) hL
  show H1[_]? = some (vp_cell _ _)
  rw [e1]
  refine congrArg some ?_
  have e2 := xcell_upd (mk := va_rf) (cA := w.2.2.1 (.object r0.1)) (n := n) (f := fun j => (f j).map (fun a => w.1.size + a)) (j := i.toNatClampNeg) (x := some (w.1.size + v))
  refine e2.trans ?_
  rw [show xtA w (n, .inr (.inr (.inr (.inr (xupd f i.toNatClampNeg (some v)))))) = (n, .inr (.inr (.inr (.inr (fun j => (xupd f i.toNatClampNeg (some v) j).map (fun a => w.1.size + a)))))) from rfl, vp_cell_q]
  congr 1
  funext q
  by_cases hq : q = i.toNatClampNeg <;> simp [xupd, hq]
theorem x_aastN (C : xOK X) {a n t0 : Nat} {cn : String} {f : Nat → Option Nat} {i : Int32} (ht : xty[t0]? = some (.object cn)) (hc : h.2 a = some (.inl (.object cn, n, .inr (.inr (.inr (.inr f)))))) (hi : xinb i n = true) (d : ck (xcc X) pc .aastore 1 = true) (kk : xAt X (pc + 1) L st k (xput h a (.inl (.object cn, n, .inr (.inr (.inr (.inr (xupd f i.toNatClampNeg none)))))))) : xAt X pc L (.null :: .int i :: .ref a :: st) k h := by
  obtain ⟨w, ⟨cc, own, yn, ret, mc, ms, rf, rl⟩, Rt, p, l, e, R, s, m, args, below, meth, c, Q⟩ := X
  intro k1 k2 hn H locs ls hR hl hL
  have hK := C.2.2.2.2.1.1
  have hty : (xty.map (fun t => (w.2.2.1 t, t)))[t0]? = some (w.2.2.1 (.object cn), .object cn) := by rw [List.getElem?_map, ht]; rfl
  refine va_WaastN (C := cn) C.1 C.2.1 (hR.2.2 a _ hc) ((hK.2 t0 _ hty).1 n (fun j => va_rf ((f j).map (fun a => w.1.size + a)))) (fun z => by cases z) (by show ¬ (i < 0 ∨ (arrV _ _ _).slots.size ≤ _); rw [arrV_size]; exact xinb_vp hi) rfl rfl (ckd d) fun H1 e1 z oq => ?_
  refine kk k1 k2 hn H1 _ ls (hR.put ?_ z oq) (x_locs hl _ _) hL
  show H1[_]? = some (vp_cell _ _)
  rw [e1]
  refine congrArg some ?_
  have e2 := xcell_upd (mk := va_rf) (cA := w.2.2.1 (.object cn)) (n := n) (f := fun j => (f j).map (fun a => w.1.size + a)) (j := i.toNatClampNeg) (x := none)
  refine e2.trans ?_
  rw [show xtA w (n, .inr (.inr (.inr (.inr (xupd f i.toNatClampNeg none))))) = (n, .inr (.inr (.inr (.inr (fun j => (xupd f i.toNatClampNeg none j).map (fun a => w.1.size + a)))))) from rfl, vp_cell_q]
  congr 1
  funext q
  by_cases hq : q = i.toNatClampNeg <;> simp [xupd, hq]
/-- a new object: its fields as they are at first -/
def xdf (r : vw_C) : List Value := (List.range r.2.2).map (fun j => defaultValue (xtyB r j))
def xnwc (own : String) (i ci : Nat) : Bool := match vwCl[ci]? with
  | some r => decide (Cond.classLink own i r.1 ∈ xG) && decide (Cond.instantiable r.1 r.2.2 ∈ xG) && decide (Cond.initialized r.1 ∈ xG)
  | none => false
theorem xdf_tr (w : xW) (t : FieldType) : xtr w (defaultValue t) = defaultValue t := by cases t <;> rfl
theorem x_new (C : xOK X) {i ci : Nat} {r : vw_C} (hr : vwCl[ci]? = some r) (hnw : xnwc (xown X) i ci = true) (hk1 : k.1 + 1 ≤ (xst X).2.2.2.1) (hk2 : k.2 + r.2.2 ≤ (xst X).2.2.2.2.1) (d : ck (xcc X) pc (.new i) 3 = true) (kk : xAt X (pc + 3) L (.ref h.1 :: st) (k.1 + 1, k.2 + r.2.2) (xnew h (.inr (ci, xdf r)))) : xAt X pc L st k h := by
  obtain ⟨w, ⟨cc, own, yn, ret, mc, ms, rf, rl⟩, Rt, p, l, e, R, s, m, args, below, meth, c, Q⟩ := X
  intro k1 k2 hn H locs ls hR hl hL
  simp only [xnwc, hr, Bool.and_eq_true, decide_eq_true_eq] at hnw
  obtain ⟨hx, hb, hown, hts, hKK, hRm, -, -⟩ := C
  have hKn := hKK.1.1 ci _ hr
  refine W.newcK hx hb hown (hts _ hnw.1.1) (hts _ hnw.1.2) (hts _ hnw.2) rfl (ckd d) (by rw [hRm.1]; exact hk1) (by rw [hRm.2.1]; exact hk2) hKn.2.1 hR.1 fun H1 kC hkC e1 z1 o1 => ?_
  have o2 : ∀ q : Nat, q < H.size → H1[q]? = H[q]? := fun q hq => o1 q (by rw [← hR.1]; exact hq)
  refine kk hk1 hk2 hn H1 locs ls (hR.new ⟨r, hr, (u_born (xtyB r) hts (xin hr) hKn hkC e1 (fun j hj => (xtyB_row hr hj).1)).to (fun j hj => ?_)⟩ (by rw [z1, hR.1]) o2) hl hL
  show defaultValue (xtyB r j) = ((xdf r).map (xtr w)).getD j .null
  simp [xdf, hj, xdf_tr]
def xat (t : ArrayType) : FieldType := newarray.typeOf t
/-- a new array of numbers -/
def xz (t : ArrayType) (n : Nat) : AC := match t with
  | .long => .inl (.long, n, .inr (.inl (fun _ => 0)))
  | .boolean => .inl (.boolean, n, .inl (fun _ => 0))
  | _ => .inl (.int, n, .inl (fun _ => 0))
theorem x_newa (C : xOK X) {t : ArrayType} {i : Int32} (ht : t = .int ∨ t = .long ∨ t = .boolean) (hcl : Cond.arrayClass (xat t) ∈ xG) (hi : 0 ≤ i) (hbig : i.toNatClampNeg ≤ 10000) (hk1 : k.1 + 1 ≤ (xst X).2.2.2.1) (hk2 : k.2 + i.toNatClampNeg ≤ (xst X).2.2.2.2.1) (d : ck (xcc X) pc (.newarray t) 2 = true) (kk : xAt X (pc + 2) L (.ref h.1 :: st) (k.1 + 1, k.2 + i.toNatClampNeg) (xnew h (xz t i.toNatClampNeg))) : xAt X pc L (.int i :: st) k h := by
  obtain ⟨w, ⟨cc, own, yn, ret, mc, ms, rf, rl⟩, Rt, p, l, e, R, s, m, args, below, meth, c, Q⟩ := X
  intro k1 k2 hn H locs ls hR hl hL
  obtain ⟨hx, hb, hown, hts, hKK, hRm, -, -⟩ := C
  have h8 : componentBytes (newarray.typeOf t) ≤ 8 := by rcases ht with rfl | rfl | rfl <;> decide
  refine va_newaK hx hb (hts _ hcl) rfl (ckd d) rfl (Int32.not_lt.mpr hi) rfl (Nat.le_trans (Nat.mul_le_mul hbig h8) (by decide)) (by rw [hRm.1]; exact hk1) (by rw [hRm.2.1]; exact hk2) hR.1 fun H1 cA e1 z1 o1 hAr hNm => ?_
  have o2 : ∀ q : Nat, q < H.size → H1[q]? = H[q]? := fun q hq => o1 q (by rw [← hR.1]; exact hq)
  refine kk hk1 hk2 hn H1 locs ls (hR.new ?_ (by rw [z1, hR.1]) o2) hl hL
  rcases ht with rfl | rfl | rfl
  · have ht0 : (xty.map (fun t => (w.2.2.1 t, t)))[0]? = some (w.2.2.1 .int, .int) := rfl
    have hc : s.vm.findClass ("[" ++ FieldType.int.toString) = some (w.2.2.1 .int) := (hKK.1.2 0 _ ht0).2
    have ec : cA = w.2.2.1 .int := Option.some.inj (hNm.symm.trans hc)
    subst ec
    exact e1
  · have ht0 : (xty.map (fun t => (w.2.2.1 t, t)))[1]? = some (w.2.2.1 .long, .long) := rfl
    have hc : s.vm.findClass ("[" ++ FieldType.long.toString) = some (w.2.2.1 .long) := (hKK.1.2 1 _ ht0).2
    have ec : cA = w.2.2.1 .long := Option.some.inj (hNm.symm.trans hc)
    subst ec
    exact e1
  · have ht0 : (xty.map (fun t => (w.2.2.1 t, t)))[2]? = some (w.2.2.1 .boolean, .boolean) := rfl
    have hc : s.vm.findClass ("[" ++ FieldType.boolean.toString) = some (w.2.2.1 .boolean) := (hKK.1.2 2 _ ht0).2
    have ec : cA = w.2.2.1 .boolean := Option.some.inj (hNm.symm.trans hc)
    subst ec
    exact e1
theorem x_anew (C : xOK X) {i t0 : Nat} {cn : String} {j : Int32} (ht : xty[t0]? = some (.object cn)) (hcl : Cond.classLink (xown X) i cn ∈ xG) (hj : 0 ≤ j) (hbig : j.toNatClampNeg ≤ 10000) (hk1 : k.1 + 1 ≤ (xst X).2.2.2.1) (hk2 : k.2 + j.toNatClampNeg ≤ (xst X).2.2.2.2.1) (d : ck (xcc X) pc (.anewarray i) 3 = true) (kk : xAt X (pc + 3) L (.ref h.1 :: st) (k.1 + 1, k.2 + j.toNatClampNeg) (xnew h (.inl (.object cn, j.toNatClampNeg, .inr (.inr (.inr (.inr (fun _ => none)))))))) : xAt X pc L (.int j :: st) k h := by
  obtain ⟨w, ⟨cc, own, yn, ret, mc, ms, rf, rl⟩, Rt, p, l, e, R, s, m, args, below, meth, c, Q⟩ := X
  intro k1 k2 hn H locs ls hR hl hL
  obtain ⟨hx, hb, hown, hts, hKK, hRm, -, -⟩ := C
  have hty : (xty.map (fun t => (w.2.2.1 t, t)))[t0]? = some (w.2.2.1 (.object cn), .object cn) := by rw [List.getElem?_map, ht]; rfl
  obtain ⟨kA0, comp0, g1, g2, g3, g4⟩ := (hKK.1.2 t0 _ hty).2
  have hov : va_AO cn s := by
    have hm := List.mem_of_getElem? ht
    simp only [xty, List.mem_cons, List.not_mem_nil, or_false, reduceCtorEq, false_or, FieldType.object.injEq] at hm
    rcases hm with rfl | rfl | rfl
    · exact hKK.2.2.1.1
    · exact hKK.2.2.1.2.1
    · exact hKK.2.2.1.2.2
  refine W.anew hx hb hown (hts _ hcl) (va_AO.use hov) rfl (ckd d) rfl (Int32.not_lt.mpr hj) (by omega) (by rw [hRm.1]; exact hk1) (by rw [hRm.2.1]; exact hk2) fun cA kA comp f1 f2 f3 f4 => ?_
  have ec : cA = w.2.2.1 (.object cn) := Option.some.inj (f1.symm.trans g4)
  subst ec
  rw [hR.1]
  refine kk hk1 hk2 hn _ locs ls (hR.new ?_ (by simp) (fun q hq => by rw [Array.getElem?_push, if_neg (Nat.ne_of_lt hq)])) hl hL
  have e9 : vp_cell (w.2.2.1 (.object cn)) (xtA w (j.toNatClampNeg, .inr (.inr (.inr (.inr (fun _ => none)))))) = arrV (w.2.2.1 (.object cn)) j.toNatClampNeg (fun _ => .null) := vp_cell_q _ _ _
  show (Array.push H _)[w.1.size + h.1]? = some (vp_cell (w.2.2.1 (.object cn)) (xtA w (j.toNatClampNeg, .inr (.inr (.inr (.inr (fun _ => none)))))))
  rw [e9, ← hR.1, Array.getElem?_push_size, ← arrV_new]
end XA
