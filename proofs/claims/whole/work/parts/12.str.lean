/-! texts: the six words' String methods; Arrays.copyOf -/
section XS1
variable {X : xCtx} {pc : Nat} {L st : List Value} {k : Nat × Nat} {h : AH}
theorem xlow {w : xW} {H : Heap} {q : Nat} {cell : Cell} (hR : Rp w h H) (hq : w.1[q]? = some cell) : H[q]? = some cell := by
  rw [hR.2.1 q (Array.getElem?_eq_some_iff.mp hq).1]
  exact hq
theorem x_sfld (C : xOK X) {i fi : Nat} {n d : String} {u v : Value} (hi : i < 6) (hlk : Cond.fieldLink (xown X) fi "java/lang/String" n d ∈ xG) (hnd : (n = "coder" ∧ d = "B" ∧ v = .int 0) ∨ (n = "value" ∧ d = "[B" ∧ v = .retAddr (7 + i))) (hu : u = .retAddr (1 + i)) (dd : ck (xcc X) pc (.getfield fi) 3 = true) (kk : xAt X (pc + 3) L (v :: st) k h) : xAt X pc L (u :: st) k h := by
  obtain ⟨w, ⟨cc, own, yn, ret, mc, ms, rf, rl⟩, Rt, p, l, e, R, s, m, args, below, meth, c, Q⟩ := X
  intro k1 k2 hn H locs ls hR hl hL
  subst hu
  obtain ⟨-, hco, hva, -⟩ := C.2.2.2.2.1.2.2.2.1.1.1 i hi
  rcases hnd with ⟨rfl, rfl, rfl⟩ | ⟨rfl, rfl, rfl⟩
  · obtain ⟨cf, kc, j, f, cell, g1, g2, g3, g4, g5, -⟩ := hco
    exact W.getf C.1 C.2.1 C.2.2.1 (C.2.2.2.1 _ hlk) g1 g2 (xlow hR g3) g4 g5 rfl rfl (ckd dd) (kk k1 k2 hn H locs ls hR hl hL)
  · obtain ⟨cf, kc, j, f, cell, g1, g2, g3, g4, g5, -⟩ := hva
    exact W.getf C.1 C.2.1 C.2.2.1 (C.2.2.2.1 _ hlk) g1 g2 (xlow hR g3) g4 g5 rfl rfl (ckd dd) (kk k1 k2 hn H locs ls hR hl hL)
theorem x_blen (C : xOK X) {i : Nat} (hi : i < 6) (d : ck (xcc X) pc .arraylength 1 = true) (kk : xAt X (pc + 1) L (.int (Int32.ofNat (xtl.getD i 0)) :: st) k h) : xAt X pc L (.retAddr (7 + i) :: st) k h := by
  obtain ⟨w, ⟨cc, own, yn, ret, mc, ms, rf, rl⟩, Rt, p, l, e, R, s, m, args, below, meth, c, Q⟩ := X
  intro k1 k2 hn H locs ls hR hl hL
  obtain ⟨-, -, -, cell, g1, g2, g3, g4, g5, g6, -⟩ := C.2.2.2.2.1.2.2.2.1.1.1 i hi
  exact W.alen C.1 C.2.1 (xlow hR g1) g2 g5 rfl rfl (ckd d) (kk k1 k2 hn H locs ls hR hl hL)
theorem x_bald (C : xOK X) {i : Nat} {j : Int32} (hi : i < 6) (hj : xinb j (xtl.getD i 0) = true) (d : ck (xcc X) pc .baload 1 = true) (kk : xAt X (pc + 1) L (.int ((xtb.getD i []).getD j.toNatClampNeg 0) :: st) k h) : xAt X pc L (.int j :: .retAddr (7 + i) :: st) k h := by
  obtain ⟨w, ⟨cc, own, yn, ret, mc, ms, rf, rl⟩, Rt, p, l, e, R, s, m, args, below, meth, c, Q⟩ := X
  intro k1 k2 hn H locs ls hR hl hL
  obtain ⟨-, -, -, cell, g1, g2, g3, g4, g5, g6, -⟩ := C.2.2.2.2.1.2.2.2.1.1.1 i hi
  have hin := xinb_vp hj
  have hlt : j.toNatClampNeg < xtl.getD i 0 := Nat.not_le.mp fun q => hin (Or.inr q)
  exact W.bald C.1 C.2.1 (xlow hR g1) g2 g3 (fun z => hin (z.elim Or.inl (fun z => Or.inr (Nat.le_trans g4 z)))) (g6 _ hlt) rfl rfl (ckd d) (kk k1 k2 hn H locs ls hR hl hL)
theorem x_i2c (C : xOK X) {a : Int32} (d : ck (xcc X) pc .i2c 1 = true) (kk : xAt X (pc + 1) L (.int (a.toUInt32 % 65536).toInt32 :: st) k h) : xAt X pc L (.int a :: st) k h := by
  obtain ⟨w, ⟨cc, own, yn, ret, mc, ms, rf, rl⟩, Rt, p, l, e, R, s, m, args, below, meth, c, Q⟩ := X
  exact fun k1 k2 hn H locs ls hR hl hL => lv_i2c C.1 C.2.1 (ckd d) rfl (kk k1 k2 hn H locs ls hR hl hL)
theorem x_cs (C : xOK X) {i : Nat} (hlk : Cond.fieldLink (xown X) i "java/lang/String" "COMPACT_STRINGS" "Z" ∈ xG) (d : ck (xcc X) pc (.getstatic i) 3 = true) (kk : xAt X (pc + 3) L (.int 1 :: st) k h) : xAt X pc L st k h := by
  obtain ⟨w, ⟨cc, own, yn, ret, mc, ms, rf, rl⟩, Rt, p, l, e, R, s, m, args, below, meth, c, Q⟩ := X
  intro k1 k2 hn H locs ls hR hl hL
  obtain ⟨cf, kf, fi, f, a, cell, g1, g2, g3, g4, g5, g6, g7, -⟩ := C.2.2.2.2.1.2.2.2.1.2.2.1
  exact W.gets C.1 C.2.1 C.2.2.1 (C.2.2.2.1 _ hlk) g1 g2 g3 g4 (xlow hR g5) (fun z => by rw [z] at g6; cases g6) g7 rfl (ckd d) (kk k1 k2 hn H locs ls hR hl hL)
theorem x_sio (C : xOK X) {i : Nat} (hlk : Cond.fieldLink (xown X) i "jdk/internal/util/Preconditions" "SIOOBE_FORMATTER" "Ljava/util/function/BiFunction;" ∈ xG) (d : ck (xcc X) pc (.getstatic i) 3 = true) (k0 : xAt X (pc + 3) L (.null :: st) k h) (kk : xAt X (pc + 3) L (.retAddr 13 :: st) k h) : xAt X pc L st k h := by
  obtain ⟨w, ⟨cc, own, yn, ret, mc, ms, rf, rl⟩, Rt, p, l, e, R, s, m, args, below, meth, c, Q⟩ := X
  intro k1 k2 hn H locs ls hR hl hL
  rcases C.2.2.2.2.1.2.2.2.1.2.2.2 with g | g
  · obtain ⟨cf, kf, fi, f, a, cell, g1, g2, g3, g4, g5, g6, g7, -⟩ := g
    exact W.gets C.1 C.2.1 C.2.2.1 (C.2.2.2.1 _ hlk) g1 g2 g3 g4 (xlow hR g5) (fun z => by rw [z] at g6; cases g6) g7 rfl (ckd d) (k0 k1 k2 hn H locs ls hR hl hL)
  · obtain ⟨cf, kf, fi, f, a, cell, g1, g2, g3, g4, g5, g6, g7, -⟩ := g
    exact W.gets C.1 C.2.1 C.2.2.1 (C.2.2.2.1 _ hlk) g1 g2 g3 g4 (xlow hR g5) (fun z => by rw [z] at g6; cases g6) g7 rfl (ckd d) (kk k1 k2 hn H locs ls hR hl hL)
def xcX (S : xS) (g : xSig) (i np : Nat) : Bool := xcb S g np && decide (Cond.methodLink S.1 i g.1 ∈ xG) && decide (Cond.instanceMethod g.1 ∈ xG) && decide (Cond.selects g.1.cls g.1 g.1 ∈ xG) && decide (g.1.cls = "java/lang/String")
theorem x_callX (C : xOK X) {g : xSig} {M : xMS} (hM : xMeets g M) {i np b : Nat} {As rest : List Value} {Q2 : Option Value → AH → Prop} (hb6 : b < 6) (hok : xcX (xst X) g i np = true) (hnp : As.length = np) (hcat : xcat rest ≤ 8) (hMM : M (.retAddr (1 + b) :: As) h Q2) (hk1 : k.1 + g.2.2.2.2.cells ≤ (xst X).2.2.2.1) (hk2 : k.2 + g.2.2.2.2.slots ≤ (xst X).2.2.2.2.1) (d : ck (xcc X) pc (.invokevirtual i) 3 = true)
    (kk : ∀ (r : Option Value) (h' : AH), Q2 r h' → xAt X (pc + 3) L (r.toList ++ rest) (k.1 + g.2.2.2.2.cells, k.2 + g.2.2.2.2.slots) h') : xAt X pc L (As.reverse ++ .retAddr (1 + b) :: rest) k h := by
  obtain ⟨w, ⟨cc, own, yn, ret, mc, ms, rf, rl⟩, Rt, p, l, e, R, s, m, args, below, meth, c, Q⟩ := X
  intro k1 k2 hn H locs ls hR hl hL
  obtain ⟨hx, hbc, hown, hts, hKK, hRm, -, -⟩ := C
  simp only [xcX, Bool.and_eq_true, decide_eq_true_eq] at hok
  obtain ⟨⟨⟨⟨hcb, hlk⟩, hin⟩, hsel⟩, hcl⟩ := hok
  obtain ⟨⟨cell, c1, c2, c3, -⟩, -⟩ := hKK.2.2.2.1.1.1 b hb6
  have hrecv : ∃ cellB : Cell, H[w.2.2.2.1 (1 + b)]? = some cellB ∧ cellB.vm.isStatics = false ∧ s.vm.findClass g.1.cls = some cellB.cls := ⟨cell, xlow hR c1, c2, by rw [hcl]; exact c3⟩
  have hpre : PreV s H g.1.cls (w.2.2.2.1 (1 + b)) (xPc w (.retAddr (1 + b) :: As) h) (As.map (xtr w)) := ⟨xPc_blind _ _ _, hrecv, fun U hU hW => ⟨rfl, by rw [hU]; exact hR, hKK.warm hW⟩⟩
  have hst : (F0 m pc ls ((As.reverse ++ .retAddr (1 + b) :: rest).map (xtr w))).stack = (As.map (xtr w)).reverse ++ .ref (w.2.2.2.1 (1 + b)) :: rest.map (xtr w) := by simp [xtr]
  have hcat' : 2 * (F0 m pc ls ((As.reverse ++ .retAddr (1 + b) :: rest).map (xtr w))).monitorRoom + ((rest.map (xtr w)).map fun v => v.category).sum ≤ 8 := lv_room (by rw [xcat_tr]; exact hcat)
  have hf : k.1 + g.2.2.2.2.cells ≤ R.cells ∧ k.2 + g.2.2.2.2.slots ≤ R.slots := ⟨by rw [hRm.1]; exact hk1, by rw [hRm.2.1]; exact hk2⟩
  have hlen : (As.map (xtr w)).length = np := by rw [List.length_map]; exact hnp
  have hsz : (F0 m pc ls ((As.reverse ++ .retAddr (1 + b) :: rest).map (xtr w))).locals.size = c.maxLocals := by rw [← hn]; exact hL.1
  exact x_ran (va_runV ⟨hx, hbc, rfl, hown, hts⟩ (hM l w _ h Q2 hMM) ⟨x_callB (S := (own, yn, ret, mc, ms, rf, rl)) hts hRm.2.2 hcb hlk, hts _ hin, hts _ hsel⟩ hpre rfl hlen hsz hst hcat' (ckd d) hf) hl hL hn hk1 hk2 kk
def xclw (S : xS) (i j : Nat) : Bool := decide (Cond.methodLink S.1 i ⟨"[I", "clone", "()Ljava/lang/Object;"⟩ ∈ xG) && decide (Cond.sameMethod "[I" "java/lang/Object" "clone" "()Ljava/lang/Object;" ∈ xG) && decide (Cond.native ⟨"java/lang/Object", "clone", "()Ljava/lang/Object;"⟩ ∈ xG) && decide (Cond.instanceMethod ⟨"java/lang/Object", "clone", "()Ljava/lang/Object;"⟩ ∈ xG) && decide (Cond.selects "[I" ⟨"[I", "clone", "()Ljava/lang/Object;"⟩ ⟨"java/lang/Object", "clone", "()Ljava/lang/Object;"⟩ ∈ xG) && decide (Cond.castable "[I" "java/lang/Cloneable" ∈ xN) && decide (Cond.classLink S.1 j "[I" ∈ xG) && Nat.ble 1 S.2.2.2.2.2.1 && Nat.ble 22 S.2.2.2.2.2.2
theorem x_cln (C : xOK X) {i j a n : Nat} {f : Nat → Int32} (hok : xclw (xst X) i j = true) (ha : h.2 a = some (.inl (.int, n, .inl f))) (hcat : xcat st ≤ 8) (hk1 : k.1 + 1 ≤ (xst X).2.2.2.1) (hk2 : k.2 + n ≤ (xst X).2.2.2.2.1) (d : ck (xcc X) pc (.invokevirtual i) 3 = true) (d2 : ck (xcc X) (pc + 3) (.checkcast j) 3 = true) (kk : xAt X (pc + 3 + 3) L (.ref h.1 :: st) (k.1 + 1, k.2 + n) (xnew h (.inl (.int, n, .inl f)))) : xAt X pc L (.ref a :: st) k h := by
  obtain ⟨w, ⟨cc, own, yn, ret, mc, ms, rf, rl⟩, Rt, p, l, e, R, s, m, args, below, meth, c, Q⟩ := X
  intro k1 k2 hn H locs ls hR hl hL
  obtain ⟨hx, hbc, hown, hts, hKK, hRm, -, -⟩ := C
  simp only [xclw, Bool.and_eq_true, decide_eq_true_eq, Nat.ble_eq] at hok
  have ht0 : (xty.map (fun t => (w.2.2.1 t, t)))[0]? = some (w.2.2.1 .int, .int) := rfl
  have hnm : s.vm.findClass "[I" = some (w.2.2.1 .int) := (hKK.1.2 0 _ ht0).2
  have hc : H[w.1.size + a]? = some (vp_cell (w.2.2.1 .int) (n, .inl f)) := hR.2.2 a _ ha
  have hsz : (vp_cell (w.2.2.1 .int) (n, .inl f)).slots.size = n := arrV_size _ _ _
  obtain ⟨c0, t0', f1, f2, f3⟩ := Cond.castable_spec (va_Nw.use (A := args) rfl (hKK.2.1 _ hok.1.1.1.2))
  cases hnm.symm.trans f1
  intro T hT Y
  have hcellT : T.heap[w.1.size + a]? = some (vp_cell (w.2.2.1 .int) (n, .inl f)) := by rw [hT]; exact hc
  obtain ⟨-, kA, hkA, comp, hkind⟩ := State.isArrayOf_alike Y.warmed.alike ((hKK.1.2 0 _ ht0).1 0 (fun _ => .null))
  obtain ⟨-, kS, hkS, compS, hkindS⟩ := (hKK.1.2 0 _ ht0).1 0 (fun _ => .null)
  have hcs := xcat_tr w st
  obtain ⟨vm', X', stp⟩ := Y.cloneArray hx hown (hts _ hok.1.1.1.1.1.1.1.1) (hts _ hok.1.1.1.1.1.1.1.2) (hts _ hok.1.1.1.1.1.1.2) (hts _ hok.1.1.1.1.1.2) (hts _ hok.1.1.1.1.2) (a := w.1.size + a) (cell := vp_cell (w.2.2.1 .int) (n, .inl f)) hcellT (fun k z => by cases z) (fun z => by cases z) hnm f2 f3
    (fun i v hv => by
      have hk' : T.vm.classes[w.2.2.1 .int]? = some kA := hkA
      have hv2 : (arrV (w.2.2.1 .int) n (fun j => .int (f j))).slots[i]? = some v := hv
      have hlt : i < n := by
        have := (Array.getElem?_eq_some_iff.mp hv2).1
        rwa [arrV_size] at this
      rw [arrV_read _ _ hlt] at hv2
      cases hv2
      show State.fitsSlot T (w.2.2.1 .int) _ _ _ = true
      simp [State.fitsSlot, State.slotType?, hk', hkind, fits, vp_cell, arrV])
    (g := F0 m pc ls (.ref (w.1.size + a) :: st.map (xtr w))) rfl (by rw [← hn]; exact hL.1) rfl (by rw [hbc]; exact ckd d) (by rw [hRm.2.2.1]; exact hok.1.2) (by
      have h8 : 22 ≤ R.locals := by rw [hRm.2.2.2]; exact hok.2
      show 2 * 0 + _ + 14 ≤ _
      rw [hcs]
      omega) (by rw [hRm.1]; exact hk1) (by rw [hRm.2.1, hsz]; exact hk2) (hloader := Vm.clonesLoader_of_array hkS hkindS)
  have hcellE : ({ cls := (vp_cell (w.2.2.1 .int) (n, .inl f)).cls, slots := (vp_cell (w.2.2.1 .int) (n, .inl f)).slots } : Cell) = vp_cell (w.2.2.1 .int) (n, .inl f) := rfl
  rw [hcellE, hsz] at X'
  have hH : ((T.setVm vm').pushCell (vp_cell (w.2.2.1 .int) (n, .inl f))).heap = H.push (vp_cell (w.2.2.1 .int) (n, .inl f)) := by rw [← hT]; rfl
  have hRn : Rp w (xnew h (.inl (.int, n, .inl f))) (H.push (vp_cell (w.2.2.1 .int) (n, .inl f))) := hR.new (by
      show (H.push _)[w.1.size + h.1]? = some _
      rw [← hR.1, Array.getElem?_push_size]
      rfl) (by simp) (fun q hq => by rw [Array.getElem?_push, if_neg (Nat.ne_of_lt hq)])
  obtain ⟨vm2, X2, stp2⟩ := X'.checkcastYes hx hown (hts _ hok.1.1.2) (a := w.1.size + h.1) (cell := vp_cell (w.2.2.1 .int) (n, .inl f)) (by rw [hH, ← hR.1, Array.getElem?_push_size]) rfl hnm (va_asg _ _) (g := F0 m (pc + 3) ls (.ref (w.1.size + h.1) :: st.map (xtr w))) rfl rfl (by rw [hbc]; exact ckd d2)
  obtain ⟨t, a1, b1⟩ := kk hk1 hk2 hn _ locs ls hRn hl hL (((T.setVm vm').pushCell (vp_cell (w.2.2.1 .int) (n, .inl f))).setVm vm2) hH X2
  refine ⟨t, stp t ?_, b1⟩
  have e9 : T.heap.size = w.1.size + h.1 := by rw [hT]; exact hR.1
  rw [hcellE]
  have h9 := stp2 t a1
  rw [← e9] at h9
  exact h9
end XS1
section XS2
variable {S : xS}
def fSv (v : Value) : Option Value := match v with
  | .retAddr q => if 1 ≤ q ∧ q < 7 then some (.retAddr (q + 6)) else none
  | _ => none
def fScd (v : Value) : Option Value := match v with
  | .retAddr q => if 1 ≤ q ∧ q < 7 then some (.int 0) else none
  | _ => none
def fBln (v : Value) : Option Value := match v with
  | .retAddr q => if 7 ≤ q ∧ q < 13 then some (.int (Int32.ofNat (xtl.getD (q - 7) 0))) else none
  | _ => none
def fBld (u v : Value) : Option Value := match u, v with
  | .retAddr q, .int j => if (7 ≤ q ∧ q < 13) ∧ xinb j (xtl.getD (q - 7) 0) = true then some (.int ((xtb.getD (q - 7) []).getD j.toNatClampNeg 0)) else none
  | _, _ => none
def fI2c (v : Value) : Option Value := match v with
  | .int a => some (.int (a.toUInt32 % 65536).toInt32)
  | _ => none
def oSv (fi : Nat) (hf : Cond.fieldLink S.1 fi "java/lang/String" "value" "[B" ∈ xG) : UO S := ⟨(.getfield fi, 3, 1, fun _ => fSv), by
  intro X C hS pc L st k h a b hv d
  subst hS
  simp only [fSv] at hv
  split at hv
  · next q =>
    split at hv
    · next hq => cases hv; exact ⟨Nat.le_refl _, x_sfld (i := q - 1) C (by omega) hf (Or.inr ⟨rfl, rfl, by rw [show 7 + (q - 1) = q + 6 by omega]⟩) (by rw [show 1 + (q - 1) = q by omega]) d⟩
    · cases hv
  · cases hv⟩
def oScd (fi : Nat) (hf : Cond.fieldLink S.1 fi "java/lang/String" "coder" "B" ∈ xG) : UO S := ⟨(.getfield fi, 3, 1, fun _ => fScd), by
  intro X C hS pc L st k h a b hv d
  subst hS
  simp only [fScd] at hv
  split at hv
  · next q =>
    split at hv
    · next hq => cases hv; exact ⟨Nat.le_refl _, x_sfld (i := q - 1) C (by omega) hf (Or.inl ⟨rfl, rfl, rfl⟩) (by rw [show 1 + (q - 1) = q by omega]) d⟩
    · cases hv
  · cases hv⟩
def oBln : UO S := ⟨(.arraylength, 1, 1, fun _ => fBln), by
  intro X C hS pc L st k h a b hv d
  simp only [fBln] at hv
  split at hv
  · next q =>
    split at hv
    · next hq =>
      cases hv
      refine ⟨Nat.le_refl _, fun kk => ?_⟩
      have := x_blen (i := q - 7) C (by omega) d kk
      rwa [show 7 + (q - 7) = q by omega] at this
    · cases hv
  · cases hv⟩
def oBld : BO S := ⟨(.baload, 1, 1, fun _ => fBld), by
  intro X C hS pc L st k h a b v hv d
  simp only [fBld] at hv
  split at hv
  · next q j =>
    split at hv
    · next hq =>
      cases hv
      refine ⟨Nat.le_refl _, fun kk => ?_⟩
      have := x_bald (i := q - 7) C (by omega) hq.2 d kk
      rwa [show 7 + (q - 7) = q by omega] at this
    · cases hv
  · cases hv⟩
def oI2c : UO S := ⟨(.i2c, 1, 1, fun _ => fI2c), by
  intro X C hS pc L st k h a b hv d
  cases a <;> simp [fI2c] at hv
  subst hv
  exact ⟨Nat.le_refl _, x_i2c C d⟩⟩
def pCs (i : Nat) (hf : Cond.fieldLink S.1 i "java/lang/String" "COMPACT_STRINGS" "Z" ∈ xG) : PN S := ⟨(3, 1, fun cc pc _ => ck cc pc (.getstatic i) 3, fun _ _ => some (.int 1)), by
  intro X C hS pc x hc hx L st k h v hv
  cases hv
  subst hS
  exact ⟨Nat.le_refl _, fun kk => x_cs C hf hc (hx _ _ _ _ kk)⟩⟩
def eSio (i : Nat) (hf : Cond.fieldLink S.1 i "jdk/internal/util/Preconditions" "SIOOBE_FORMATTER" "Ljava/util/function/BiFunction;" ∈ xG) : EN S := ⟨(3, 1, 0, fun cc pc _ => ck cc pc (.getstatic i) 3, fun _ k h Q => Q .null k h ∧ Q (.retAddr 13) k h), by
  intro X C hS pc x hc hx L st k h Q hd hs kk
  subst hS
  exact x_sio C hf hc (hx _ _ _ _ (kk _ _ _ (Nat.le_refl _) hs.1)) (hx _ _ _ _ (kk _ _ _ (Nat.le_refl _) hs.2))⟩
/-- code that is never come to -/
def sDead (n : Nat) : SN S := ⟨(n, fun _ _ _ _ _ => true, fun _ _ _ _ _ _ _ => False), by
  intro X C hS pc x bt ct hc hx L k h N B Ct R hs hN hB hCt hR
  exact hs.elim⟩
/-- a method of one of the six texts -/
def kX (g : xSig) (M : {M : xMS // xMeets g M}) (i : Nat) (o : EN S) (a : AN S) (hok : xcX S g i a.1.2.1 = true) : KN S := ⟨(o.1.1 + a.1.1 + 3, max o.1.2.2.1 (o.1.2.1 + a.1.2.2.1), fun cc pc => o.1.2.2.2.1 cc pc (pc + o.1.1) && a.1.2.2.2.1 cc (pc + o.1.1) && ck cc (pc + o.1.1 + a.1.1) (.invokevirtual i) 3,
    fun L k h Q => o.1.2.2.2.2 L k h (fun u k1 h1 => a.1.2.2.2.2 L k1 h1 (fun vs k2 h2 => ∃ (b : Nat), u = .retAddr (1 + b) ∧ b < 6 ∧ xaf S g k2 ∧ M.1 (u :: vs) h2 (fun r h' => Q r (xkp g k2) h')))), by
  intro X C hS pc hc L st k h Q hd hs kk
  obtain ⟨h12, h3⟩ := xand hc
  obtain ⟨h1, h2⟩ := xand h12
  have hd : xcat st + max o.1.2.2.1 (o.1.2.1 + a.1.2.2.1) ≤ 8 := hd
  refine o.2 X C hS pc (pc + o.1.1) h1 xEx.rf L st k h _ (by omega) hs (fun u k1 h1' hu hq => ?_)
  refine a.2 X C hS (pc + o.1.1) h2 L (u :: st) k1 h1' _ (by rw [xcat_cons]; omega) hq (fun vs k2 h2' hl hr => ?_)
  obtain ⟨b, rfl, hb, hk, hM⟩ := hr
  subst hS
  refine x_callX C M.2 hb hok hl (by omega) hM hk.1 hk.2 h3 (fun r h' hq => ?_)
  have e : pc + (o.1.1 + a.1.1 + 3) = pc + o.1.1 + a.1.1 + 3 := by omega
  rw [← e]
  exact kk r _ h' hq⟩
def eCl (i j : Nat) (hok : xclw S i j = true) (o : EN S) : EN S := ⟨(o.1.1 + 6, 1, o.1.2.2.1, fun cc pc _ => o.1.2.2.2.1 cc pc (pc + o.1.1) && ck cc (pc + o.1.1) (.invokevirtual i) 3 && ck cc (pc + o.1.1 + 3) (.checkcast j) 3,
    fun L k h Q => o.1.2.2.2.2 L k h (fun u k' h' => ∃ a n f, u = .ref a ∧ h'.2 a = some (.inl (.int, n, .inl f)) ∧ k'.1 + 1 ≤ S.2.2.2.1 ∧ k'.2 + n ≤ S.2.2.2.2.1 ∧ Q (.ref h'.1) (k'.1 + 1, k'.2 + n) (xnew h' (.inl (.int, n, .inl f))))), by
  intro X C hS pc x hc hx L st k h Q hd hs kk
  obtain ⟨h12, h3⟩ := xand hc
  obtain ⟨h1, h2⟩ := xand h12
  refine o.2 X C hS pc (pc + o.1.1) h1 xEx.rf L st k h _ hd hs (fun u k' h' hu hq => ?_)
  obtain ⟨a, n, f, rfl, ha, hk1, hk2, hq⟩ := hq
  subst hS
  refine x_cln C hok ha (Nat.le_trans (Nat.le_add_right _ _) hd) hk1 hk2 h2 h3 ?_
  have e : pc + (o.1.1 + 6) = pc + o.1.1 + 3 + 3 := by omega
  rw [← e]
  exact hx _ _ _ _ (kk _ _ _ (Nat.le_refl _) hq)⟩
end XS2
