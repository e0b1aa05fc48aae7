/-! methods by what they do to the abstract heap; calls -/
abbrev xMS : Type := List Value → AH → (Option Value → AH → Prop) → Prop
abbrev xSig : Type := MethodName × ByteArray × Nat × Option FieldType × Room
def xQ (w : xW) (Rt : Option Value → AH → Prop) : Array Value → State → Outcome → State → Prop := fun _ _ o t => ∃ (r : Option Value) (h' : AH), o = .returned (r.map (xtr w)) ∧ Rt r h' ∧ Rp w h' t.heap
def xPc (w : xW) (vs : List Value) (h : AH) : Array Value → State → Prop := fun v U => v = (vs.map (xtr w)).toArray ∧ Rp w h U.heap ∧ xK w U
def xMeets (g : xSig) (M : xMS) : Prop := ∀ (l : Launch) (w : xW) (vs : List Value) (h : AH) (Rt : Option Value → AH → Prop), M vs h Rt →
  Met l g.1 (.code g.1 g.2.1 g.2.2.1 g.2.2.2.1 :: xG) g.2.2.2.2 (xPc w vs h) (xQ w Rt) g.2.2.2.2.cells g.2.2.2.2.slots (xfree w)
theorem xG_good {c : Cond} (h : c ∈ xG) : GoodIn xG (c :: xG) := by
  intro u hu
  have hm : u ∈ xG := by
    rcases List.mem_cons.mp hu with rfl | z
    · exact h
    · exact z
  exact ⟨hm, good_of_word (List.mem_filter.mp hm).2⟩
theorem xPc_blind (w : xW) (vs : List Value) (h : AH) : FrameBlind (xPc w vs h) := fun a U g mk q => ⟨q.1, q.2.1, xK.vm (s := U) rfl q.2.2⟩
def xcat (st : List Value) : Nat := (st.map fun v => v.category).sum
theorem xcat_tr (w : xW) (st : List Value) : ((st.map (xtr w)).map fun v => v.category).sum = xcat st := by
  unfold xcat
  rw [List.map_map]
  congr 1
  exact List.map_congr_left (fun v _ => xtr_cat w v)
section XC
variable {X : xCtx} {pc : Nat} {L st : List Value} {k : Nat × Nat} {h : AH}
theorem x_ran {w : xW} {cc : ByteArray} {own : String} {yn : String × Option (Nat × (Nat → Int32))} {ret : Option FieldType} {mc ms rf rl : Nat} {Rt : Option Value → AH → Prop} {p : Program} {l : Launch} {e : Env} {R : Room} {s : State} {m : MethodId} {args : Array Value} {below : List Frame} {meth : Method} {c : Code} {Q : State → Prop} {H : Heap} {locs : List Loc} {ls : Array Slot} {mc' ms' : Nat} {st0 rest : List Value} {Q2 : Option Value → AH → Prop} {a : Array Value}
    (hr : va_Run p l e R s m args below meth c H locs k.1 k.2 mc' ms' (F0 m pc ls st0) (rest.map (xtr w)) (xQ w Q2 a) (xfree w)) (hl : ∀ q ∈ locs, xfree w q.base) (hL : xL w ls L) (hn : L.length = c.maxLocals) (hk1 : k.1 + mc' ≤ mc) (hk2 : k.2 + ms' ≤ ms)
    (kk : ∀ (r : Option Value) (h' : AH), Q2 r h' → xAt (w, (cc, own, yn, ret, mc, ms, rf, rl), Rt, p, l, e, R, s, m, args, below, meth, c, Q) (pc + 3) L (r.toList ++ rest) (k.1 + mc', k.2 + ms') h') : W p l e R s m args below meth c H locs k.1 k.2 Q (F0 m pc ls st0) := by
  intro T hT X
  obtain ⟨v, st₀, t, T', L2, h0, X', hL2, e1, e2, ⟨r, h', hv, hq, hR'⟩, stp⟩ := hr T hT X
  have hv' : v = r.map (xtr w) := by injection hv
  subst hv'
  have hlo : ∀ q ∈ locs ++ L2, xfree w q.base := by
    intro q hq
    rcases List.mem_append.mp hq with z | z
    · exact hl q z
    · exact hL2 q z
  obtain ⟨t2, a1, b1⟩ := kk r h' hq hk1 hk2 hn T'.heap (locs ++ L2) ls (by rw [e1]; exact hR') hlo hL T' rfl X'
  have e3 : (r.map (xtr w)).toList ++ rest.map (xtr w) = (r.toList ++ rest).map (xtr w) := by cases r <;> simp
  refine ⟨t2, stp t2 ?_, b1⟩
  show Steps p.tables e below (T'.setTop (F0 m (pc + 3) ls ((r.map (xtr w)).toList ++ rest.map (xtr w)))) t2
  rw [e3]
  exact a1
/-- what a call of g by pool number i needs of the tables and the room -/
def xcb (S : xS) (g : xSig) (np : Nat) : Bool := decide (Cond.initialized g.1.cls ∈ xG) && decide (Cond.code g.1 g.2.1 g.2.2.1 g.2.2.2.1 ∈ xG) && (decide (g.1.cls ≠ "java/lang/invoke/MethodHandle") && decide (g.1.cls ≠ "java/lang/invoke/VarHandle")) && decide ((parseMethodDescriptor g.1.desc).map (fun d => d.parameters.length) = some np) && decide (g.2.2.2.2.frames + 1 ≤ S.2.2.2.2.2.1) && decide (8 + (g.2.2.1 + 11) + g.2.2.2.2.locals ≤ S.2.2.2.2.2.2)
def xlk (S : xS) (g : xSig) (i : Nat) : Bool := decide (Cond.methodLink S.1 i g.1 ∈ xG) || decide (Cond.methodLinkNest S.1 i g.1 "CornerCuts" ∈ xN)
theorem x_callB {s : State} {args : Array Value} {R : Room} {S : xS} {g : xSig} {i np : Nat} (hts : ∀ u ∈ xG, u.before args s = true) (hrf : R.frames = S.2.2.2.2.2.1 ∧ R.locals = S.2.2.2.2.2.2) (hb : xcb S g np = true) (hl : Cond.methodLink S.1 i g.1 ∈ xG) : CallB R s args S.1 i g.1 g.2.1 g.2.2.1 g.2.2.2.1 (.code g.1 g.2.1 g.2.2.1 g.2.2.2.1 :: xG) g.2.2.2.2 g.2.2.2.2.cells g.2.2.2.2.slots np := by
  simp only [xcb, Bool.and_eq_true, decide_eq_true_eq] at hb
  exact callB_of np hts (xG_good hb.1.1.1.1.2) rfl rfl rfl (hts _ hb.1.1.1.1.1) (hts _ hl) ⟨hb.1.1.1.2.1, hb.1.1.1.2.2, hb.1.1.2⟩ ⟨by rw [hrf.1]; exact hb.1.2, by rw [hrf.2]; exact hb.2⟩
theorem x_callN {s : State} {args : Array Value} {R : Room} {S : xS} {g : xSig} {i np : Nat} (hts : ∀ u ∈ xG, u.before args s = true) (hK : ∀ c ∈ xN, va_Nw c s) (hrf : R.frames = S.2.2.2.2.2.1 ∧ R.locals = S.2.2.2.2.2.2) (hb : xcb S g np = true) (hl : Cond.methodLinkNest S.1 i g.1 "CornerCuts" ∈ xN) : va_CN R s args S.1 i g.1 "CornerCuts" g.2.1 g.2.2.1 g.2.2.2.1 (.code g.1 g.2.1 g.2.2.1 g.2.2.2.1 :: xG) g.2.2.2.2 g.2.2.2.2.cells g.2.2.2.2.slots np := by
  simp only [xcb, Bool.and_eq_true, decide_eq_true_eq] at hb
  exact va_cnB np hts (xG_good hb.1.1.1.1.2) rfl rfl rfl (hK _ hl) (hts _ hb.1.1.1.1.1) ⟨hb.1.1.1.2.1, hb.1.1.1.2.2, hb.1.1.2⟩ ⟨by rw [hrf.1]; exact hb.1.2, by rw [hrf.2]; exact hb.2⟩
def xcV (S : xS) (g : xSig) (i np ci : Nat) : Bool := xcb S g np && xlk S g i && decide (Cond.instanceMethod g.1 ∈ xG) && decide (Cond.selects g.1.cls g.1 g.1 ∈ xG) && (match vwCl[ci]? with | some r => decide (r.1 = g.1.cls) | none => false)
theorem x_callV (C : xOK X) {g : xSig} {M : xMS} (hM : xMeets g M) {i np ci b : Nat} {fs As rest : List Value} {Q2 : Option Value → AH → Prop} (hok : xcV (xst X) g i np ci = true) (hb : h.2 b = some (.inr (ci, fs))) (hnp : As.length = np) (hcat : xcat rest ≤ 8) (hMM : M (.ref b :: As) h Q2) (hk1 : k.1 + g.2.2.2.2.cells ≤ (xst X).2.2.2.1) (hk2 : k.2 + g.2.2.2.2.slots ≤ (xst X).2.2.2.2.1) (d : ck (xcc X) pc (.invokevirtual i) 3 = true)
    (kk : ∀ (r : Option Value) (h' : AH), Q2 r h' → xAt X (pc + 3) L (r.toList ++ rest) (k.1 + g.2.2.2.2.cells, k.2 + g.2.2.2.2.slots) h') : xAt X pc L (As.reverse ++ .ref b :: rest) k h := by
  obtain ⟨w, ⟨cc, own, yn, ret, mc, ms, rf, rl⟩, Rt, p, l, e, R, s, m, args, below, meth, c, Q⟩ := X
  intro k1 k2 hn H locs ls hR hl hL
  obtain ⟨hx, hbc, hown, hts, hKK, hRm, -, -⟩ := C
  simp only [xcV, xlk, Bool.and_eq_true, Bool.or_eq_true, decide_eq_true_eq] at hok
  obtain ⟨⟨⟨⟨hcb, hlk⟩, hin⟩, hsel⟩, hcl⟩ := hok
  obtain ⟨r, hr, cell, c1, c2, c3, -⟩ := hR.2.2 b _ hb
  rw [hr] at hcl
  simp only [decide_eq_true_eq] at hcl
  have hrecv : ∃ cellB : Cell, H[w.1.size + b]? = some cellB ∧ cellB.vm.isStatics = false ∧ s.vm.findClass g.1.cls = some cellB.cls := ⟨cell, c1, by rw [c3]; rfl, by rw [c2, ← hcl]; exact (hKK.1.1 ci r hr).2.1⟩
  have hpre : PreV s H g.1.cls (w.1.size + b) (xPc w (.ref b :: As) h) (As.map (xtr w)) := ⟨xPc_blind _ _ _, hrecv, fun U hU hW => ⟨rfl, by rw [hU]; exact hR, hKK.warm hW⟩⟩
  have hst : (F0 m pc ls ((As.reverse ++ .ref b :: rest).map (xtr w))).stack = (As.map (xtr w)).reverse ++ .ref (w.1.size + b) :: rest.map (xtr w) := by simp [xtr]
  have hcat' : 2 * (F0 m pc ls ((As.reverse ++ .ref b :: rest).map (xtr w))).monitorRoom + ((rest.map (xtr w)).map fun v => v.category).sum ≤ 8 := lv_room (by rw [xcat_tr]; exact hcat)
  have hf : k.1 + g.2.2.2.2.cells ≤ R.cells ∧ k.2 + g.2.2.2.2.slots ≤ R.slots := ⟨by rw [hRm.1]; exact hk1, by rw [hRm.2.1]; exact hk2⟩
  have hlen : (As.map (xtr w)).length = np := by rw [List.length_map]; exact hnp
  have hsz : (F0 m pc ls ((As.reverse ++ .ref b :: rest).map (xtr w))).locals.size = c.maxLocals := by rw [← hn]; exact hL.1
  rcases hlk with hlk | hlk
  · exact x_ran (va_runV ⟨hx, hbc, rfl, hown, hts⟩ (hM l w _ h Q2 hMM) ⟨x_callB (S := (own, yn, ret, mc, ms, rf, rl)) hts hRm.2.2 hcb hlk, hts _ hin, hts _ hsel⟩ hpre rfl hlen hsz hst hcat' (ckd d) hf) hl hL hn hk1 hk2 kk
  · exact x_ran (va_runVN ⟨hx, hbc, rfl, hown, hts⟩ (hM l w _ h Q2 hMM) ⟨x_callN (S := (own, yn, ret, mc, ms, rf, rl)) hts hKK.2.1 hRm.2.2 hcb hlk, hts _ hin, hts _ hsel⟩ hpre rfl hlen hsz hst hcat' (ckd d) hf) hl hL hn hk1 hk2 kk
def xcS (S : xS) (g : xSig) (i np : Nat) : Bool := xcb S g np && xlk S g i && decide (Cond.static g.1 ∈ xG)
theorem x_callS (C : xOK X) {g : xSig} {M : xMS} (hM : xMeets g M) {i np : Nat} {As rest : List Value} {Q2 : Option Value → AH → Prop} (hok : xcS (xst X) g i np = true) (hnp : As.length = np) (hcat : xcat rest ≤ 8) (hMM : M As h Q2) (hk1 : k.1 + g.2.2.2.2.cells ≤ (xst X).2.2.2.1) (hk2 : k.2 + g.2.2.2.2.slots ≤ (xst X).2.2.2.2.1) (d : ck (xcc X) pc (.invokestatic i) 3 = true)
    (kk : ∀ (r : Option Value) (h' : AH), Q2 r h' → xAt X (pc + 3) L (r.toList ++ rest) (k.1 + g.2.2.2.2.cells, k.2 + g.2.2.2.2.slots) h') : xAt X pc L (As.reverse ++ rest) k h := by
  obtain ⟨w, ⟨cc, own, yn, ret, mc, ms, rf, rl⟩, Rt, p, l, e, R, s, m, args, below, meth, c, Q⟩ := X
  intro k1 k2 hn H locs ls hR hl hL
  obtain ⟨hx, hbc, hown, hts, hKK, hRm, -, -⟩ := C
  simp only [xcS, xlk, Bool.and_eq_true, Bool.or_eq_true, decide_eq_true_eq] at hok
  obtain ⟨⟨hcb, hlk⟩, hstt⟩ := hok
  have hpre : PreS s H (xPc w As h) (As.map (xtr w)) := ⟨xPc_blind _ _ _, fun U hU hW => ⟨rfl, by rw [hU]; exact hR, hKK.warm hW⟩⟩
  have hst : (F0 m pc ls ((As.reverse ++ rest).map (xtr w))).stack = (As.map (xtr w)).reverse ++ rest.map (xtr w) := by simp
  have hcat' : 2 * (F0 m pc ls ((As.reverse ++ rest).map (xtr w))).monitorRoom + ((rest.map (xtr w)).map fun v => v.category).sum ≤ 8 := lv_room (by rw [xcat_tr]; exact hcat)
  have hf : k.1 + g.2.2.2.2.cells ≤ R.cells ∧ k.2 + g.2.2.2.2.slots ≤ R.slots := ⟨by rw [hRm.1]; exact hk1, by rw [hRm.2.1]; exact hk2⟩
  have hlen : (As.map (xtr w)).length = np := by rw [List.length_map]; exact hnp
  have hsz : (F0 m pc ls ((As.reverse ++ rest).map (xtr w))).locals.size = c.maxLocals := by rw [← hn]; exact hL.1
  rcases hlk with hlk | hlk
  · exact x_ran (va_runS ⟨hx, hbc, rfl, hown, hts⟩ (hM l w _ h Q2 hMM) ⟨x_callB (S := (own, yn, ret, mc, ms, rf, rl)) hts hRm.2.2 hcb hlk, hts _ hstt⟩ hpre rfl hlen hsz hst hcat' (ckd d) hf) hl hL hn hk1 hk2 kk
  · exact x_ran (va_runSN ⟨hx, hbc, rfl, hown, hts⟩ (hM l w _ h Q2 hMM) ⟨x_callN (S := (own, yn, ret, mc, ms, rf, rl)) hts hKK.2.1 hRm.2.2 hcb hlk, hts _ hstt, trivial⟩ hpre rfl hlen hsz hst hcat' (ckd d) hf) hl hL hn hk1 hk2 kk
def xcI (S : xS) (g : xSig) (i np : Nat) : Bool := xcb S g np && xlk S g i && decide (Cond.instanceMethod g.1 ∈ xG) && decide (g.1.name = "<init>") && decide (g.2.2.2.1 = none)
theorem x_callI (C : xOK X) {g : xSig} {M : xMS} (hM : xMeets g M) {i np b : Nat} {As rest : List Value} {Q2 : Option Value → AH → Prop} (hok : xcI (xst X) g i np = true) (hnp : As.length = np) (hcat : xcat rest ≤ 8) (hMM : M (.ref b :: As) h Q2) (hk1 : k.1 + g.2.2.2.2.cells ≤ (xst X).2.2.2.1) (hk2 : k.2 + g.2.2.2.2.slots ≤ (xst X).2.2.2.2.1) (d : ck (xcc X) pc (.invokespecial i) 3 = true)
    (kk : ∀ (r : Option Value) (h' : AH), Q2 r h' → xAt X (pc + 3) L (r.toList ++ rest) (k.1 + g.2.2.2.2.cells, k.2 + g.2.2.2.2.slots) h') : xAt X pc L (As.reverse ++ .ref b :: rest) k h := by
  obtain ⟨w, ⟨cc, own, yn, ret, mc, ms, rf, rl⟩, Rt, p, l, e, R, s, m, args, below, meth, c, Q⟩ := X
  intro k1 k2 hn H locs ls hR hl hL
  obtain ⟨hx, hbc, hown, hts, hKK, hRm, -, -⟩ := C
  obtain ⟨y, cy, ml, rt, rm⟩ := g
  simp only [xcI, xlk, Bool.and_eq_true, Bool.or_eq_true, decide_eq_true_eq] at hok
  obtain ⟨⟨⟨⟨hcb, hlk⟩, hin⟩, hnm⟩, hrt⟩ := hok
  subst hrt
  have hpre : PreS s H (xPc w (.ref b :: As) h) (.ref (w.1.size + b) :: As.map (xtr w)) := ⟨xPc_blind _ _ _, fun U hU hW => ⟨rfl, by rw [hU]; exact hR, hKK.warm hW⟩⟩
  have hst : (F0 m pc ls ((As.reverse ++ .ref b :: rest).map (xtr w))).stack = (As.map (xtr w)).reverse ++ .ref (w.1.size + b) :: rest.map (xtr w) := by simp [xtr]
  have hcat' : 2 * (F0 m pc ls ((As.reverse ++ .ref b :: rest).map (xtr w))).monitorRoom + ((rest.map (xtr w)).map fun v => v.category).sum ≤ 8 := lv_room (by rw [xcat_tr]; exact hcat)
  have hf : k.1 + rm.cells ≤ R.cells ∧ k.2 + rm.slots ≤ R.slots := ⟨by rw [hRm.1]; exact hk1, by rw [hRm.2.1]; exact hk2⟩
  have hlen : (As.map (xtr w)).length = np := by rw [List.length_map]; exact hnp
  have hsz : (F0 m pc ls ((As.reverse ++ .ref b :: rest).map (xtr w))).locals.size = c.maxLocals := by rw [← hn]; exact hL.1
  rcases hlk with hlk | hlk
  · exact x_ran (va_runI ⟨hx, hbc, rfl, hown, hts⟩ (hM l w _ h Q2 hMM) ⟨x_callB (S := (own, yn, ret, mc, ms, rf, rl)) hts hRm.2.2 hcb hlk, hnm, hts _ hin⟩ hpre rfl hlen hsz hst hcat' (ckd d) hf) hl hL hn hk1 hk2 kk
  · exact x_ran (va_runIN ⟨hx, hbc, rfl, hown, hts⟩ (hM l w _ h Q2 hMM) ⟨x_callN (S := (own, yn, ret, mc, ms, rf, rl)) hts hKK.2.1 hRm.2.2 hcb hlk, hnm, hts _ hin⟩ hpre rfl hlen hsz hst hcat' (ckd d) hf) hl hL hn hk1 hk2 kk
def xco (S : xS) (i : Nat) : Bool := decide (Cond.methodLink S.1 i Lib.objectInit ∈ xG) && decide (Cond.instanceMethod Lib.objectInit ∈ xG) && decide (Cond.code Lib.objectInit ⟨#[0xb1]⟩ 1 none ∈ xG) && decide (1 ≤ S.2.2.2.2.2.1) && decide (20 ≤ S.2.2.2.2.2.2)
theorem x_obj (C : xOK X) {i a : Nat} (hok : xco (xst X) i = true) (hcat : xcat st ≤ 8) (d : ck (xcc X) pc (.invokespecial i) 3 = true) (kk : xAt X (pc + 3) L st k h) : xAt X pc L (.ref a :: st) k h := by
  obtain ⟨w, ⟨cc, own, yn, ret, mc, ms, rf, rl⟩, Rt, p, l, e, R, s, m, args, below, meth, c, Q⟩ := X
  intro k1 k2 hn H locs ls hR hl hL
  obtain ⟨hx, hbc, hown, hts, hKK, hRm, -, -⟩ := C
  simp only [xco, Bool.and_eq_true, decide_eq_true_eq] at hok
  refine W.objInit hx hbc hown (hts _ hok.1.1.1.1) (hts _ hok.1.1.1.2) (hts _ hok.1.1.2) rfl (hL.1.trans hn) (a := w.1.size + a) (rest := st.map (xtr w)) rfl (ckd d) (by rw [hRm.2.2.1]; exact hok.1.2) ?_ (kk k1 k2 hn H locs ls hR hl hL)
  have h20 : 20 ≤ R.locals := by rw [hRm.2.2.2]; exact hok.2
  have hc := xcat_tr w st
  show 2 * 0 + _ + 12 ≤ R.locals
  rw [hc]
  omega
end XC
def xent : List Value → List Value
  | [] => []
  | v :: r => if v.category = 2 then v :: xjk :: xent r else v :: xent r
/-- the locals with which a method begins -/
def xen (vs : List Value) (n : Nat) : List Value := xent vs ++ List.replicate (n - (xent vs).length) xjk
theorem xent_args (w : xW) : ∀ (vs : List Value) (off i : Nat) (v : Value), (xent vs)[i]? = some v → xlive v = true → (off + i, xtr w v) ∈ lv_args off (vs.map (xtr w))
  | [], off, i, v, h, _ => by simp [xent] at h
  | u :: vs, off, i, v, h, hv => by
    simp only [List.map_cons, lv_args, xtr_cat]
    by_cases hc : u.category = 2
    · simp only [xent, hc, if_true] at h ⊢
      match i, h with
      | 0, h => cases h; exact List.mem_cons_self
      | 1, h => cases h; cases hv
      | j + 2, h =>
        refine List.mem_cons_of_mem _ ?_
        have := xent_args w vs (off + 2) j v (by simpa using h) hv
        rw [show off + (j + 2) = off + 2 + j by omega]
        exact this
    · simp only [xent, hc, if_false] at h ⊢
      match i, h with
      | 0, h => cases h; exact List.mem_cons_self
      | j + 1, h =>
        refine List.mem_cons_of_mem _ ?_
        have := xent_args w vs (off + 1) j v (by simpa using h) hv
        rw [show off + (j + 1) = off + 1 + j by omega]
        exact this
theorem xent_len (w : xW) : ∀ vs : List Value, (lg_sl (vs.map (xtr w))).length = (xent vs).length
  | [] => rfl
  | u :: vs => by
    have ih := xent_len w vs
    simp only [lg_sl, List.map_cons, List.flatMap_cons, xtr_cat, List.length_append] at ih ⊢
    by_cases hc : u.category = 2 <;> simp [xent, hc, ih] <;> omega
theorem xen_L {w : xW} {vs : List Value} {n : Nat} (hn : (xent vs).length ≤ n) {ls : Array Slot} (h : lv_has ls n (lv_args 0 (vs.map (xtr w)))) : xL w ls (xen vs n) := by
  refine ⟨?_, h.2.1, fun i v hi hv => ?_⟩
  · rw [h.1]; simp [xen]; omega
  · simp only [xen] at hi
    by_cases hl : i < (xent vs).length
    · rw [List.getElem?_append_left hl] at hi
      have := xent_args w vs 0 i v hi hv
      rw [Nat.zero_add] at this
      exact h.2.2 _ this
    · rw [List.getElem?_append_right (by omega)] at hi
      have := List.eq_of_mem_replicate (List.mem_of_getElem? hi)
      subst this
      cases hv
theorem xMet_ofW {l : Launch} {y : MethodName} {ws ws' : List Cond} {rm : Room} {Pc : Array Value → State → Prop} {Qc : Array Value → State → Outcome → State → Prop} {mc ms : Nat} {free : Addr → Prop} {cc : ByteArray} {maxL : Nat} {ret : Option FieldType}
    (hy : plainFor y = true) (hw : ws = Cond.code y cc maxL ret :: ws')
    (body : ∀ p e s m args below meth c s₁, BodyLoose p l y (headSpec ws rm) cc maxL ret e s m args below meth c s₁ → c.maxLocals = maxL → Pc args s →
      W p l e (headSpec ws rm).room s m args below meth c s.heap [] 0 0 (MQ below Qc args s mc ms free) (entryFrame m args maxL)) : Met l y ws rm Pc Qc mc ms free := by
  refine MetFree.of_bodySF (code := cc) (maxLocals := maxL) (ret := ret) hy ?_ ?_
  · intro args s m h hn
    obtain ⟨meth, c, h1, h2, h3, h4, h5, h6, -, -⟩ := Cond.code_spec hn (atoms_spec (ws := ws) h _ (by rw [hw]; exact List.mem_cons_self))
    exact ⟨meth, c, h1, h2, h3, h4, h5, h6⟩
  · intro p e s m args below meth c s₁ B hml hP _
    have hh0 : s₁.heap = s.heap := by rw [B.state]; rfl
    obtain ⟨t, a1, o, b1, b2, b3⟩ := body p e s m args below meth c s₁ B hml hP s₁ hh0 (Stand.of_body B)
    exact ⟨t, o, a1, b1, b2, ⟨b3.1, b3.2⟩⟩
/-- a method out of a walk from its entry -/
theorem x_meets {g : xSig} {M : xMS} (hpl : plainFor g.1 = true)
    (walk : ∀ (X : xCtx), xOK X → xcc X = g.2.1 → xst X = (g.1.cls, (g.1.name, none), g.2.2.2.1, g.2.2.2.2.cells, g.2.2.2.2.slots, g.2.2.2.2.frames, g.2.2.2.2.locals) → ∀ (vs : List Value) (h : AH), M vs h (xRt X) → (xent vs).length ≤ g.2.2.1 ∧ xAt X 0 (xen vs g.2.2.1) [] (0, 0) h) : xMeets g M := by
  obtain ⟨y, cc, ml, rt, rm⟩ := g
  intro l w vs h Rt hMM
  refine xMet_ofW (cc := cc) (maxL := ml) (ret := rt) hpl rfl ?_
  intro p e s m args below meth c s₁ B hml hv
  obtain ⟨rfl, hR, hK⟩ := hv
  have hts0 := atoms_spec (ws := .code y cc ml rt :: xG) B.pre
  have hts : ∀ u ∈ xG, u.before (vs.map (xtr w)).toArray s = true := fun u hu => hts0 u (List.mem_cons_of_mem _ hu)
  have hlocks := B.notSynchronized
  have hr := B.returns
  have hb := B.bytes
  have hx := B.exec
  have C : xOK (w, (cc, y.cls, (y.name, none), rt, rm.cells, rm.slots, rm.frames, rm.locals), Rt, p, l, e, rm, s, m, (vs.map (xtr w)).toArray, below, meth, c, MQ below (xQ w Rt) (vs.map (xtr w)).toArray s rm.cells rm.slots (xfree w)) := by
    refine ⟨hx, hb, findClass_of_methodNamed B.named, hts, hK, ⟨rfl, rfl, rfl, rfl⟩, (name_of_methodNamed B.named B.method).1, Or.inl rfl, ?_⟩
    intro r h' H locs ls k pc hRt hrv hd hk1 hk2 hR' hl
    refine W.widen (k := rm.cells) (n := rm.slots) hk1 hk2 ?_
    have hq : ∀ t : State, t.heap = H → s.WarmedH t.vm → xQ w Rt (vs.map (xtr w)).toArray s (.returned (r.map (xtr w))) t := fun t ht _ => ⟨r, h', rfl, hRt, by rw [ht]; exact hR'⟩
    unfold xrv at hrv
    split at hrv
    · exact W.vret hx hb hr hq hl hd
    · exact W.iret hx hb hr hq hl hd
    · exact W.zret hx hb hr (by rcases hrv with rfl | rfl <;> decide) hq hl hd
    · exact W.zret hx hb hr hrv hq hl hd
    · exact W.zret hx hb hr hrv hq hl hd
    · exact W.lret hx hb hr hq hl hd
    · exact W.aret hx hb hr (Or.inl ⟨_, rfl⟩) (Or.inr ⟨_, rfl⟩) hq hl hd
    · exact W.aret hx hb hr (Or.inl ⟨_, rfl⟩) (Or.inl rfl) hq hl hd
    · exact W.aret hx hb hr (Or.inl ⟨_, rfl⟩) (Or.inr ⟨_, rfl⟩) hq hl hd
    · exact W.aret hx hb hr (Or.inr ⟨_, rfl⟩) (Or.inr ⟨_, rfl⟩) hq hl hd
    · exact hrv.elim
  obtain ⟨hlen, hat⟩ := walk _ C rfl rfl vs h hMM
  have hle : (lg_sl (vs.map (xtr w))).length ≤ ml := by rw [xent_len]; exact hlen
  have hent := lv_entry (vs.map (xtr w)) hle
  rw [lg_entry_eq]
  exact hat (Nat.zero_le _) (Nat.zero_le _) (by rw [hml]; simp [xen]; exact Nat.add_sub_cancel' hlen) s.heap [] _ hR (fun q hq => by cases hq) (xen_L hlen hent)
