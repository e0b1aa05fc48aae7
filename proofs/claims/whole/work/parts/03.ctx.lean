/-! what stands of a state besides its heap, the context of a method's run, and one-instruction rows over abstract locals, stack and heap -/
abbrev xty : List FieldType := [.int, .long, .boolean, .object "CornerCuts$Cut", .object "CornerCuts$Model", .object "CornerCuts$Values"]
abbrev xtx : List String := ["gmi", "frac", "step", "both", "hull", "told"]
abbrev xtl : List Nat := [3, 4, 4, 4, 4, 4]
abbrev xtb : List (List Int32) := [[103, 109, 105], [102, 114, 97, 99], [115, 116, 101, 112], [98, 111, 116, 104], [104, 117, 108, 108], [116, 111, 108, 100]]
def xK (w : xW) (s : State) : Prop := va_K w.2.1 vwCl (xty.map (fun t => (w.2.2.1 t, t))) s ∧ (∀ c ∈ xN, va_Nw c s) ∧ (va_AO "CornerCuts$Cut" s ∧ va_AO "CornerCuts$Model" s ∧ va_AO "CornerCuts$Values" s) ∧
  (vk_S 6 xtl xtb (fun i => w.2.2.2.1 (1 + i)) (fun i => w.2.2.2.1 (7 + i)) (xfree w) s w.1 ∧ (∀ i : Nat, i < 6 → vk_R "CornerCuts" (422 + 2 * i) (xtx.getD i "") (w.2.2.2.1 (1 + i)) s) ∧ va_Z "java/lang/String" "COMPACT_STRINGS" "Z" (.int 1) (xfree w) s w.1 ∧ (va_Z "jdk/internal/util/Preconditions" "SIOOBE_FORMATTER" "Ljava/util/function/BiFunction;" .null (xfree w) s w.1 ∨ va_Z "jdk/internal/util/Preconditions" "SIOOBE_FORMATTER" "Ljava/util/function/BiFunction;" (.ref (w.2.2.2.1 13)) (xfree w) s w.1)) ∧
  (va_X (w.2.2.2.1 0) w.2.2.2.2.1 w.2.2.2.2.2 s w.1 ∧ w.2.2.2.1 0 < w.1.size)
theorem xN_kind : ∀ c ∈ xN, xnb c = true := fun c h => (List.mem_filter.mp h).2
theorem xNw_warm {c : Cond} (hc : xnb c = true) {s U : State} (hW : s.WarmedH U.vm) (h : va_Nw c s) : va_Nw c U := by
  cases c with
  | fieldLinkNest _ _ _ _ _ _ => exact va_Nw.warmF hW h
  | methodLinkNest _ _ _ _ => exact va_Nw.warmM hW h
  | castable _ _ => exact va_Nw.warmC hW h
  | _ => simp [xnb] at hc
theorem xK.warm {w : xW} {s U : State} (hW : s.WarmedH U.vm) (h : xK w s) : xK w U := by
  obtain ⟨h1, h2, ⟨h3, h4, h5⟩, ⟨h6, h7, h8, h8'⟩, h9, h10⟩ := h
  have hA := hW.alike
  exact ⟨va_K.moved hA h1, fun c hc => xNw_warm (xN_kind c hc) hW (h2 c hc), ⟨h3.moved hA, h4.moved hA, h5.moved hA⟩, ⟨h6.moved hA, fun i hi => (h7 i hi).warm hW, h8.moved hA, h8'.imp (fun z => z.moved hA) (fun z => z.moved hA)⟩, h9.moved hA, h10⟩
theorem xK.vm {w : xW} {s U : State} (hv : U.vm = s.vm) (h : xK w s) : xK w U := by
  obtain ⟨h1, h2, ⟨h3, h4, h5⟩, ⟨h6, h7, h8, h8'⟩, h9, h10⟩ := h
  have hA : s.vm.Alike U.vm := by rw [hv]; exact Vm.Alike.refl _
  refine ⟨va_K.moved hA h1, fun c hc => ?_, ⟨h3.moved hA, h4.moved hA, h5.moved hA⟩, ⟨h6.moved hA, fun i hi => (h7 i hi).same hv, h8.moved hA, h8'.imp (fun z => z.moved hA) (fun z => z.moved hA)⟩, h9.moved hA, h10⟩
  have hk := xN_kind c hc
  have hot : c.onTables = true := by
    cases c with
    | fieldLinkNest _ _ _ _ _ _ => rfl
    | methodLinkNest _ _ _ _ => rfl
    | castable _ _ => rfl
    | _ => simp [xnb] at hk
  exact va_Nw.same hot hv.symm (h2 c hc)
/-- own class, name (and the script, where it is asked), answer's type, most cells and slots, frames and locals left -/
abbrev xS : Type := String × (String × Option (Nat × (Nat → Int32))) × Option FieldType × Nat × Nat × Nat × Nat
abbrev xCtx : Type := xW × (ByteArray × xS) × (Option Value → AH → Prop) × (Program × Launch × Env × Room × State × MethodId × Array Value × List Frame × Method × Code × (State → Prop))
def xAt (X : xCtx) (pc : Nat) (L stk : List Value) (k : Nat × Nat) (h : AH) : Prop := match X with
  | (w, (_, _, _, _, mc, ms, _, _), _, (p, l, e, R, s, m, args, below, meth, c, Q)) => k.1 ≤ mc → k.2 ≤ ms → L.length = c.maxLocals → ∀ (H : Heap) (locs : List Loc) (ls : Array Slot), Rp w h H → (∀ q ∈ locs, xfree w q.base) → xL w ls L →
    W p l e R s m args below meth c H locs k.1 k.2 Q (F0 m pc ls (stk.map (xtr w)))
def xrv (ret : Option FieldType) (r : Option Value) : Prop := match ret, r with
  | none, none => True
  | some .int, some (.int _) => True
  | some .boolean, some (.int v) => v = 0 ∨ v = 1
  | some .char, some (.int v) => narrow .char (.int v) = .int v
  | some .byte, some (.int v) => narrow .byte (.int v) = .int v
  | some .long, some (.long _) => True
  | some (.object _), some (.ref _) => True
  | some (.object _), some .null => True
  | some (.object _), some (.retAddr _) => True
  | some (.array _), some (.ref _) => True
  | _, _ => False
def xrI (r : Option Value) : Instr := match r with
  | none => .return_
  | some (.int _) => .ireturn
  | some (.long _) => .lreturn
  | _ => .areturn
def xOK (X : xCtx) : Prop := match X with
  | (w, (cc, own, yn, ret, mc, ms, rf, rl), Rt, (p, l, e, R, s, m, args, below, meth, c, Q)) => p.tables.exec = Jvm.exec ∧ c.code = cc ∧ s.vm.findClass own = some m.cls ∧ (∀ u ∈ xG, u.before args s = true) ∧ xK w s ∧ (R.cells = mc ∧ R.slots = ms ∧ R.frames = rf ∧ R.locals = rl) ∧ meth.name = yn.1 ∧ (yn.2 = none ∨ yn.2 = some w.2.2.2.2) ∧
    ∀ (r : Option Value) (h : AH) (H : Heap) (locs : List Loc) (ls : Array Slot) (k : Nat × Nat) (pc : Nat), Rt r h → xrv ret r → decode cc pc = .ok (xrI r, 1) → k.1 ≤ mc → k.2 ≤ ms → Rp w h H → (∀ q ∈ locs, xfree w q.base) → W p l e R s m args below meth c H locs k.1 k.2 Q (F0 m pc ls (r.toList.map (xtr w)))
def xcc (X : xCtx) : ByteArray := X.2.1.1
def xown (X : xCtx) : String := X.2.1.2.1
def xst (X : xCtx) : xS := X.2.1.2
def xRt (X : xCtx) : Option Value → AH → Prop := X.2.2.1
def ck (cc : ByteArray) (pc : Nat) (i : Instr) (n : Nat) : Bool := decide (decode cc pc = .ok (i, n))
theorem ckd {cc : ByteArray} {pc n : Nat} {i : Instr} (h : ck cc pc i n = true) : decode cc pc = .ok (i, n) := of_decide_eq_true h
section XI
variable {X : xCtx} {pc : Nat} {L st : List Value} {k : Nat × Nat} {h : AH}
theorem x_iconst (C : xOK X) {n : Int} (d : ck (xcc X) pc (.iconst n) 1 = true) (kk : xAt X (pc + 1) L (.int (Int32.ofInt n) :: st) k h) : xAt X pc L st k h := by
  obtain ⟨w, ⟨cc, own, yn, ret, mc, ms, rf, rl⟩, Rt, p, l, e, R, s, m, args, below, meth, c, Q⟩ := X
  exact fun k1 k2 hn H locs ls hR hl hL => lv_iconst C.1 C.2.1 (ckd d) rfl (kk k1 k2 hn H locs ls hR hl hL)
theorem x_bipush (C : xOK X) {n : Int} (d : ck (xcc X) pc (.bipush n) 2 = true) (kk : xAt X (pc + 2) L (.int (Int8.ofInt n).toInt32 :: st) k h) : xAt X pc L st k h := by
  obtain ⟨w, ⟨cc, own, yn, ret, mc, ms, rf, rl⟩, Rt, p, l, e, R, s, m, args, below, meth, c, Q⟩ := X
  exact fun k1 k2 hn H locs ls hR hl hL => lv_bipush C.1 C.2.1 (ckd d) rfl (kk k1 k2 hn H locs ls hR hl hL)
theorem x_sipush (C : xOK X) {n : Int} (d : ck (xcc X) pc (.sipush n) 3 = true) (kk : xAt X (pc + 3) L (.int (Int16.ofInt n).toInt32 :: st) k h) : xAt X pc L st k h := by
  obtain ⟨w, ⟨cc, own, yn, ret, mc, ms, rf, rl⟩, Rt, p, l, e, R, s, m, args, below, meth, c, Q⟩ := X
  exact fun k1 k2 hn H locs ls hR hl hL => lv_sipush C.1 C.2.1 (ckd d) rfl (kk k1 k2 hn H locs ls hR hl hL)
theorem x_ldc (C : xOK X) {i : Nat} {v : Int32} (hc : Cond.constant (xown X) i v ∈ xG) (d : ck (xcc X) pc (.ldc i) 2 = true) (kk : xAt X (pc + 2) L (.int v :: st) k h) : xAt X pc L st k h := by
  obtain ⟨w, ⟨cc, own, yn, ret, mc, ms, rf, rl⟩, Rt, p, l, e, R, s, m, args, below, meth, c, Q⟩ := X
  exact fun k1 k2 hn H locs ls hR hl hL => lv_ldc C.1 C.2.1 C.2.2.1 (C.2.2.2.1 _ hc) (ckd d) (kk k1 k2 hn H locs ls hR hl hL)
theorem x_ldcw (C : xOK X) {i : Nat} {v : Int32} (hc : Cond.constant (xown X) i v ∈ xG) (d : ck (xcc X) pc (.ldc_w i) 3 = true) (kk : xAt X (pc + 3) L (.int v :: st) k h) : xAt X pc L st k h := by
  obtain ⟨w, ⟨cc, own, yn, ret, mc, ms, rf, rl⟩, Rt, p, l, e, R, s, m, args, below, meth, c, Q⟩ := X
  exact fun k1 k2 hn H locs ls hR hl hL => lv_ldcw C.1 C.2.1 C.2.2.1 (C.2.2.2.1 _ hc) (ckd d) (kk k1 k2 hn H locs ls hR hl hL)
theorem x_ldc2 (C : xOK X) {i : Nat} {v : Int64} (hc : Cond.constantLong (xown X) i v ∈ xG) (d : ck (xcc X) pc (.ldc2_w i) 3 = true) (kk : xAt X (pc + 3) L (.long v :: st) k h) : xAt X pc L st k h := by
  obtain ⟨w, ⟨cc, own, yn, ret, mc, ms, rf, rl⟩, Rt, p, l, e, R, s, m, args, below, meth, c, Q⟩ := X
  exact fun k1 k2 hn H locs ls hR hl hL => lv_ldc2 C.1 C.2.1 C.2.2.1 (C.2.2.2.1 _ hc) (ckd d) (kk k1 k2 hn H locs ls hR hl hL)
theorem x_lconst (C : xOK X) {n : Fin 2} (d : ck (xcc X) pc (.lconst n) 1 = true) (kk : xAt X (pc + 1) L (.long (Int64.ofNat n) :: st) k h) : xAt X pc L st k h := by
  obtain ⟨w, ⟨cc, own, yn, ret, mc, ms, rf, rl⟩, Rt, p, l, e, R, s, m, args, below, meth, c, Q⟩ := X
  exact fun k1 k2 hn H locs ls hR hl hL => lv_lconst C.1 C.2.1 (ckd d) rfl (kk k1 k2 hn H locs ls hR hl hL)
theorem x_null (C : xOK X) (d : ck (xcc X) pc .aconst_null 1 = true) (kk : xAt X (pc + 1) L (.null :: st) k h) : xAt X pc L st k h := by
  obtain ⟨w, ⟨cc, own, yn, ret, mc, ms, rf, rl⟩, Rt, p, l, e, R, s, m, args, below, meth, c, Q⟩ := X
  exact fun k1 k2 hn H locs ls hR hl hL => lv_null C.1 C.2.1 (ckd d) (kk k1 k2 hn H locs ls hR hl hL)
theorem x_iload_n (C : xOK X) {i : Fin 4} {v : Int32} (hv : L[i.val]? = some (.int v)) (d : ck (xcc X) pc (.iload_n i) 1 = true) (kk : xAt X (pc + 1) L (.int v :: st) k h) : xAt X pc L st k h := by
  obtain ⟨w, ⟨cc, own, yn, ret, mc, ms, rf, rl⟩, Rt, p, l, e, R, s, m, args, below, meth, c, Q⟩ := X
  exact fun k1 k2 hn H locs ls hR hl hL => lv_iload_n C.1 C.2.1 (ckd d) rfl (hL.at hv rfl) (kk k1 k2 hn H locs ls hR hl hL)
theorem x_iload (C : xOK X) {i : Nat} {v : Int32} (hv : L[i]? = some (.int v)) (d : ck (xcc X) pc (.iload i) 2 = true) (kk : xAt X (pc + 2) L (.int v :: st) k h) : xAt X pc L st k h := by
  obtain ⟨w, ⟨cc, own, yn, ret, mc, ms, rf, rl⟩, Rt, p, l, e, R, s, m, args, below, meth, c, Q⟩ := X
  exact fun k1 k2 hn H locs ls hR hl hL => lv_iload C.1 C.2.1 (ckd d) (hL.at hv rfl) (kk k1 k2 hn H locs ls hR hl hL)
theorem x_lload_n (C : xOK X) {i : Fin 4} {v : Int64} (hv : L[i.val]? = some (.long v)) (d : ck (xcc X) pc (.lload_n i) 1 = true) (kk : xAt X (pc + 1) L (.long v :: st) k h) : xAt X pc L st k h := by
  obtain ⟨w, ⟨cc, own, yn, ret, mc, ms, rf, rl⟩, Rt, p, l, e, R, s, m, args, below, meth, c, Q⟩ := X
  exact fun k1 k2 hn H locs ls hR hl hL => lv_lload_n C.1 C.2.1 (ckd d) rfl (hL.at hv rfl) (kk k1 k2 hn H locs ls hR hl hL)
theorem x_lload (C : xOK X) {i : Nat} {v : Int64} (hv : L[i]? = some (.long v)) (d : ck (xcc X) pc (.lload i) 2 = true) (kk : xAt X (pc + 2) L (.long v :: st) k h) : xAt X pc L st k h := by
  obtain ⟨w, ⟨cc, own, yn, ret, mc, ms, rf, rl⟩, Rt, p, l, e, R, s, m, args, below, meth, c, Q⟩ := X
  exact fun k1 k2 hn H locs ls hR hl hL => lv_lload C.1 C.2.1 (ckd d) (hL.at hv rfl) (kk k1 k2 hn H locs ls hR hl hL)
def xisr (v : Value) : Bool := match v with
  | .ref _ => true
  | .null => true
  | .retAddr _ => true
  | _ => false
theorem x_aload_n (C : xOK X) {i : Fin 4} {v : Value} (hr : xisr v = true) (hv : L[i.val]? = some v) (d : ck (xcc X) pc (.aload_n i) 1 = true) (kk : xAt X (pc + 1) L (v :: st) k h) : xAt X pc L st k h := by
  obtain ⟨w, ⟨cc, own, yn, ret, mc, ms, rf, rl⟩, Rt, p, l, e, R, s, m, args, below, meth, c, Q⟩ := X
  intro k1 k2 hn H locs ls hR hl hL
  cases v with
  | ref a => exact lv_aload_n C.1 C.2.1 (ckd d) rfl (hL.at hv rfl) (kk k1 k2 hn H locs ls hR hl hL)
  | retAddr a => exact lv_aload_n C.1 C.2.1 (ckd d) rfl (hL.at hv rfl) (kk k1 k2 hn H locs ls hR hl hL)
  | null => exact lv_aload_nN C.1 C.2.1 (ckd d) rfl (hL.at hv rfl) (kk k1 k2 hn H locs ls hR hl hL)
  | _ => simp [xisr] at hr
theorem x_aload (C : xOK X) {i : Nat} {v : Value} (hr : xisr v = true) (hv : L[i]? = some v) (d : ck (xcc X) pc (.aload i) 2 = true) (kk : xAt X (pc + 2) L (v :: st) k h) : xAt X pc L st k h := by
  obtain ⟨w, ⟨cc, own, yn, ret, mc, ms, rf, rl⟩, Rt, p, l, e, R, s, m, args, below, meth, c, Q⟩ := X
  intro k1 k2 hn H locs ls hR hl hL
  cases v with
  | ref a => exact lv_aload C.1 C.2.1 (ckd d) (hL.at hv rfl) (kk k1 k2 hn H locs ls hR hl hL)
  | retAddr a => exact lv_aload C.1 C.2.1 (ckd d) (hL.at hv rfl) (kk k1 k2 hn H locs ls hR hl hL)
  | null => exact lv_aloadN C.1 C.2.1 (ckd d) (hL.at hv rfl) (kk k1 k2 hn H locs ls hR hl hL)
  | _ => simp [xisr] at hr
theorem x_istore_n (C : xOK X) {i : Fin 4} {v : Int32} (hi : i.val < L.length) (d : ck (xcc X) pc (.istore_n i) 1 = true) (kk : xAt X (pc + 1) (xs1 L i.val (.int v)) st k h) : xAt X pc L (.int v :: st) k h := by
  obtain ⟨w, ⟨cc, own, yn, ret, mc, ms, rf, rl⟩, Rt, p, l, e, R, s, m, args, below, meth, c, Q⟩ := X
  exact fun k1 k2 hn H locs ls hR hl hL => lv_istore_n C.1 C.2.1 (ckd d) rfl hL.has hi rfl (fun ls' h' => kk k1 k2 (by rw [xs1_len]; exact hn) H locs ls' hR hl (xL.st1 (v := .int v) h'))
theorem x_istore (C : xOK X) {i : Nat} {v : Int32} (hi : i < L.length) (d : ck (xcc X) pc (.istore i) 2 = true) (kk : xAt X (pc + 2) (xs1 L i (.int v)) st k h) : xAt X pc L (.int v :: st) k h := by
  obtain ⟨w, ⟨cc, own, yn, ret, mc, ms, rf, rl⟩, Rt, p, l, e, R, s, m, args, below, meth, c, Q⟩ := X
  exact fun k1 k2 hn H locs ls hR hl hL => lv_istore C.1 C.2.1 (ckd d) hL.has hi rfl (fun ls' h' => kk k1 k2 (by rw [xs1_len]; exact hn) H locs ls' hR hl (xL.st1 (v := .int v) h'))
theorem x_lstore_n (C : xOK X) {i : Fin 4} {v : Int64} (hi : i.val + 1 < L.length) (d : ck (xcc X) pc (.lstore_n i) 1 = true) (kk : xAt X (pc + 1) (xs2 L i.val (.long v)) st k h) : xAt X pc L (.long v :: st) k h := by
  obtain ⟨w, ⟨cc, own, yn, ret, mc, ms, rf, rl⟩, Rt, p, l, e, R, s, m, args, below, meth, c, Q⟩ := X
  exact fun k1 k2 hn H locs ls hR hl hL => lv_lstore_n C.1 C.2.1 (ckd d) rfl hL.has hi rfl (fun ls' h' => kk k1 k2 (by rw [xs2_len]; exact hn) H locs ls' hR hl (xL.st2 (v := .long v) h'))
theorem x_lstore (C : xOK X) {i : Nat} {v : Int64} (hi : i + 1 < L.length) (d : ck (xcc X) pc (.lstore i) 2 = true) (kk : xAt X (pc + 2) (xs2 L i (.long v)) st k h) : xAt X pc L (.long v :: st) k h := by
  obtain ⟨w, ⟨cc, own, yn, ret, mc, ms, rf, rl⟩, Rt, p, l, e, R, s, m, args, below, meth, c, Q⟩ := X
  exact fun k1 k2 hn H locs ls hR hl hL => lv_lstore C.1 C.2.1 (ckd d) hL.has hi rfl (fun ls' h' => kk k1 k2 (by rw [xs2_len]; exact hn) H locs ls' hR hl (xL.st2 (v := .long v) h'))
theorem x_astore_n (C : xOK X) {i : Fin 4} {v : Value} (hr : xisr v = true) (hi : i.val < L.length) (d : ck (xcc X) pc (.astore_n i) 1 = true) (kk : xAt X (pc + 1) (xs1 L i.val v) st k h) : xAt X pc L (v :: st) k h := by
  obtain ⟨w, ⟨cc, own, yn, ret, mc, ms, rf, rl⟩, Rt, p, l, e, R, s, m, args, below, meth, c, Q⟩ := X
  intro k1 k2 hn H locs ls hR hl hL
  cases v with
  | ref a => exact lv_astore_n C.1 C.2.1 (ckd d) rfl hL.has hi rfl (fun ls' h' => kk k1 k2 (by rw [xs1_len]; exact hn) H locs ls' hR hl (xL.st1 (v := .ref a) h'))
  | retAddr a => exact lv_astore_n C.1 C.2.1 (ckd d) rfl hL.has hi rfl (fun ls' h' => kk k1 k2 (by rw [xs1_len]; exact hn) H locs ls' hR hl (xL.st1 (v := .retAddr a) h'))
  | null => exact lv_astore_nN C.1 C.2.1 (ckd d) rfl hL.has hi rfl (fun ls' h' => kk k1 k2 (by rw [xs1_len]; exact hn) H locs ls' hR hl (xL.st1 (v := .null) h'))
  | _ => simp [xisr] at hr
theorem x_astore (C : xOK X) {i : Nat} {v : Value} (hr : xisr v = true) (hi : i < L.length) (d : ck (xcc X) pc (.astore i) 2 = true) (kk : xAt X (pc + 2) (xs1 L i v) st k h) : xAt X pc L (v :: st) k h := by
  obtain ⟨w, ⟨cc, own, yn, ret, mc, ms, rf, rl⟩, Rt, p, l, e, R, s, m, args, below, meth, c, Q⟩ := X
  intro k1 k2 hn H locs ls hR hl hL
  cases v with
  | ref a => exact lv_astore C.1 C.2.1 (ckd d) hL.has hi rfl (fun ls' h' => kk k1 k2 (by rw [xs1_len]; exact hn) H locs ls' hR hl (xL.st1 (v := .ref a) h'))
  | retAddr a => exact lv_astore C.1 C.2.1 (ckd d) hL.has hi rfl (fun ls' h' => kk k1 k2 (by rw [xs1_len]; exact hn) H locs ls' hR hl (xL.st1 (v := .retAddr a) h'))
  | null => exact lv_astoreN C.1 C.2.1 (ckd d) hL.has hi rfl (fun ls' h' => kk k1 k2 (by rw [xs1_len]; exact hn) H locs ls' hR hl (xL.st1 (v := .null) h'))
  | _ => simp [xisr] at hr
theorem x_iinc (C : xOK X) {i : Nat} {n : Int} {v : Int32} (hi : L[i]? = some (.int v)) (d : ck (xcc X) pc (.iinc i n) 3 = true) (kk : xAt X (pc + 3) (xs1 L i (.int (v + Int32.ofInt n))) st k h) : xAt X pc L st k h := by
  obtain ⟨w, ⟨cc, own, yn, ret, mc, ms, rf, rl⟩, Rt, p, l, e, R, s, m, args, below, meth, c, Q⟩ := X
  intro k1 k2 hn H locs ls hR hl hL
  obtain ⟨j, hj⟩ := List.getElem?_of_mem (xprs_mem (w := w).mpr ⟨_, hi, rfl, rfl⟩)
  exact lv_iinc C.1 C.2.1 (ckd d) hL.has hj rfl (List.getElem?_eq_some_iff.mp hi).1 rfl (fun ls' h' => kk k1 k2 (by rw [xs1_len]; exact hn) H locs ls' hR hl (xL.st1 (v := .int (v + Int32.ofInt n)) h'))
def xrem (a b : Int32) : Int32 := a - a / b * b
def xremL (a b : Int64) : Int64 := a - a / b * b
def xshl (a b : Int32) : Int32 := a <<< (b &&& 31)
def xshr (a b : Int32) : Int32 := a >>> (b &&& 31)
def xushr (a b : Int32) : Int32 := (a.toUInt32 >>> (b.toUInt32 &&& Int32.toUInt32 31)).toInt32
def xshlL (a : Int64) (b : Int32) : Int64 := a <<< (b.toInt64 &&& 63)
def xshrL (a : Int64) (b : Int32) : Int64 := a >>> (b.toInt64 &&& 63)
def xcm (c : ClassFile.Cond) (a b : Int32) : Bool := match c with
  | .eq => decide (a = b)
  | .ne => !decide (a = b)
  | .lt => decide (a < b)
  | .ge => decide (b ≤ a)
  | .gt => decide (b < a)
  | .le => decide (a ≤ b)
theorem x_iadd (C : xOK X) {a b : Int32} (d : ck (xcc X) pc .iadd 1 = true) (kk : xAt X (pc + 1) L (.int (a + b) :: st) k h) : xAt X pc L (.int b :: .int a :: st) k h := by
  obtain ⟨w, ⟨cc, own, yn, ret, mc, ms, rf, rl⟩, Rt, p, l, e, R, s, m, args, below, meth, c, Q⟩ := X
  exact fun k1 k2 hn H locs ls hR hl hL => lv_iadd C.1 C.2.1 (ckd d) (kk k1 k2 hn H locs ls hR hl hL)
theorem x_isub (C : xOK X) {a b : Int32} (d : ck (xcc X) pc .isub 1 = true) (kk : xAt X (pc + 1) L (.int (a - b) :: st) k h) : xAt X pc L (.int b :: .int a :: st) k h := by
  obtain ⟨w, ⟨cc, own, yn, ret, mc, ms, rf, rl⟩, Rt, p, l, e, R, s, m, args, below, meth, c, Q⟩ := X
  exact fun k1 k2 hn H locs ls hR hl hL => lv_isub C.1 C.2.1 (ckd d) (kk k1 k2 hn H locs ls hR hl hL)
theorem x_imul (C : xOK X) {a b : Int32} (d : ck (xcc X) pc .imul 1 = true) (kk : xAt X (pc + 1) L (.int (a * b) :: st) k h) : xAt X pc L (.int b :: .int a :: st) k h := by
  obtain ⟨w, ⟨cc, own, yn, ret, mc, ms, rf, rl⟩, Rt, p, l, e, R, s, m, args, below, meth, c, Q⟩ := X
  exact fun k1 k2 hn H locs ls hR hl hL => lv_imul C.1 C.2.1 (ckd d) (kk k1 k2 hn H locs ls hR hl hL)
theorem x_iand (C : xOK X) {a b : Int32} (d : ck (xcc X) pc .iand 1 = true) (kk : xAt X (pc + 1) L (.int (a &&& b) :: st) k h) : xAt X pc L (.int b :: .int a :: st) k h := by
  obtain ⟨w, ⟨cc, own, yn, ret, mc, ms, rf, rl⟩, Rt, p, l, e, R, s, m, args, below, meth, c, Q⟩ := X
  exact fun k1 k2 hn H locs ls hR hl hL => lv_iand C.1 C.2.1 (ckd d) (kk k1 k2 hn H locs ls hR hl hL)
theorem x_ior (C : xOK X) {a b : Int32} (d : ck (xcc X) pc .ior 1 = true) (kk : xAt X (pc + 1) L (.int (a ||| b) :: st) k h) : xAt X pc L (.int b :: .int a :: st) k h := by
  obtain ⟨w, ⟨cc, own, yn, ret, mc, ms, rf, rl⟩, Rt, p, l, e, R, s, m, args, below, meth, c, Q⟩ := X
  exact fun k1 k2 hn H locs ls hR hl hL => lv_ior C.1 C.2.1 (ckd d) (kk k1 k2 hn H locs ls hR hl hL)
theorem x_idiv (C : xOK X) {a b : Int32} (hne : ¬ b = 0) (d : ck (xcc X) pc .idiv 1 = true) (kk : xAt X (pc + 1) L (.int (a / b) :: st) k h) : xAt X pc L (.int b :: .int a :: st) k h := by
  obtain ⟨w, ⟨cc, own, yn, ret, mc, ms, rf, rl⟩, Rt, p, l, e, R, s, m, args, below, meth, c, Q⟩ := X
  exact fun k1 k2 hn H locs ls hR hl hL => lv_idiv C.1 C.2.1 (ckd d) hne (kk k1 k2 hn H locs ls hR hl hL)
theorem x_ladd (C : xOK X) {a b : Int64} (d : ck (xcc X) pc .ladd 1 = true) (kk : xAt X (pc + 1) L (.long (a + b) :: st) k h) : xAt X pc L (.long b :: .long a :: st) k h := by
  obtain ⟨w, ⟨cc, own, yn, ret, mc, ms, rf, rl⟩, Rt, p, l, e, R, s, m, args, below, meth, c, Q⟩ := X
  exact fun k1 k2 hn H locs ls hR hl hL => lv_ladd C.1 C.2.1 (ckd d) (kk k1 k2 hn H locs ls hR hl hL)
theorem x_lsub (C : xOK X) {a b : Int64} (d : ck (xcc X) pc .lsub 1 = true) (kk : xAt X (pc + 1) L (.long (a - b) :: st) k h) : xAt X pc L (.long b :: .long a :: st) k h := by
  obtain ⟨w, ⟨cc, own, yn, ret, mc, ms, rf, rl⟩, Rt, p, l, e, R, s, m, args, below, meth, c, Q⟩ := X
  exact fun k1 k2 hn H locs ls hR hl hL => lv_lsub C.1 C.2.1 (ckd d) (kk k1 k2 hn H locs ls hR hl hL)
theorem x_lmul (C : xOK X) {a b : Int64} (d : ck (xcc X) pc .lmul 1 = true) (kk : xAt X (pc + 1) L (.long (a * b) :: st) k h) : xAt X pc L (.long b :: .long a :: st) k h := by
  obtain ⟨w, ⟨cc, own, yn, ret, mc, ms, rf, rl⟩, Rt, p, l, e, R, s, m, args, below, meth, c, Q⟩ := X
  exact fun k1 k2 hn H locs ls hR hl hL => lv_lmul C.1 C.2.1 (ckd d) (kk k1 k2 hn H locs ls hR hl hL)
theorem x_land (C : xOK X) {a b : Int64} (d : ck (xcc X) pc .land 1 = true) (kk : xAt X (pc + 1) L (.long (a &&& b) :: st) k h) : xAt X pc L (.long b :: .long a :: st) k h := by
  obtain ⟨w, ⟨cc, own, yn, ret, mc, ms, rf, rl⟩, Rt, p, l, e, R, s, m, args, below, meth, c, Q⟩ := X
  exact fun k1 k2 hn H locs ls hR hl hL => lv_land C.1 C.2.1 (ckd d) (kk k1 k2 hn H locs ls hR hl hL)
theorem x_irem (C : xOK X) {a b : Int32} (hne : ¬ b = 0) (d : ck (xcc X) pc .irem 1 = true) (kk : xAt X (pc + 1) L (.int (xrem a b) :: st) k h) : xAt X pc L (.int b :: .int a :: st) k h := by
  obtain ⟨w, ⟨cc, own, yn, ret, mc, ms, rf, rl⟩, Rt, p, l, e, R, s, m, args, below, meth, c, Q⟩ := X
  exact fun k1 k2 hn H locs ls hR hl hL => lv_irem C.1 C.2.1 (ckd d) hne (kk k1 k2 hn H locs ls hR hl hL)
theorem x_lrem (C : xOK X) {a b : Int64} (hne : ¬ b = 0) (d : ck (xcc X) pc .lrem 1 = true) (kk : xAt X (pc + 1) L (.long (xremL a b) :: st) k h) : xAt X pc L (.long b :: .long a :: st) k h := by
  obtain ⟨w, ⟨cc, own, yn, ret, mc, ms, rf, rl⟩, Rt, p, l, e, R, s, m, args, below, meth, c, Q⟩ := X
  exact fun k1 k2 hn H locs ls hR hl hL => lv_lrem C.1 C.2.1 (ckd d) hne (kk k1 k2 hn H locs ls hR hl hL)
theorem x_ishl (C : xOK X) {a b : Int32} (d : ck (xcc X) pc .ishl 1 = true) (kk : xAt X (pc + 1) L (.int (xshl a b) :: st) k h) : xAt X pc L (.int b :: .int a :: st) k h := by
  obtain ⟨w, ⟨cc, own, yn, ret, mc, ms, rf, rl⟩, Rt, p, l, e, R, s, m, args, below, meth, c, Q⟩ := X
  exact fun k1 k2 hn H locs ls hR hl hL => lv_ishl C.1 C.2.1 (ckd d) (kk k1 k2 hn H locs ls hR hl hL)
theorem x_ishr (C : xOK X) {a b : Int32} (d : ck (xcc X) pc .ishr 1 = true) (kk : xAt X (pc + 1) L (.int (xshr a b) :: st) k h) : xAt X pc L (.int b :: .int a :: st) k h := by
  obtain ⟨w, ⟨cc, own, yn, ret, mc, ms, rf, rl⟩, Rt, p, l, e, R, s, m, args, below, meth, c, Q⟩ := X
  exact fun k1 k2 hn H locs ls hR hl hL => lv_ishr C.1 C.2.1 (ckd d) (kk k1 k2 hn H locs ls hR hl hL)
theorem x_iushr (C : xOK X) {a b : Int32} (d : ck (xcc X) pc .iushr 1 = true) (kk : xAt X (pc + 1) L (.int (xushr a b) :: st) k h) : xAt X pc L (.int b :: .int a :: st) k h := by
  obtain ⟨w, ⟨cc, own, yn, ret, mc, ms, rf, rl⟩, Rt, p, l, e, R, s, m, args, below, meth, c, Q⟩ := X
  exact fun k1 k2 hn H locs ls hR hl hL => lv_iushr C.1 C.2.1 (ckd d) rfl (kk k1 k2 hn H locs ls hR hl hL)
theorem x_lshl (C : xOK X) {a : Int64} {b : Int32} (d : ck (xcc X) pc .lshl 1 = true) (kk : xAt X (pc + 1) L (.long (xshlL a b) :: st) k h) : xAt X pc L (.int b :: .long a :: st) k h := by
  obtain ⟨w, ⟨cc, own, yn, ret, mc, ms, rf, rl⟩, Rt, p, l, e, R, s, m, args, below, meth, c, Q⟩ := X
  exact fun k1 k2 hn H locs ls hR hl hL => lv_lshl C.1 C.2.1 (ckd d) rfl (kk k1 k2 hn H locs ls hR hl hL)
theorem x_lshr (C : xOK X) {a : Int64} {b : Int32} (d : ck (xcc X) pc .lshr 1 = true) (kk : xAt X (pc + 1) L (.long (xshrL a b) :: st) k h) : xAt X pc L (.int b :: .long a :: st) k h := by
  obtain ⟨w, ⟨cc, own, yn, ret, mc, ms, rf, rl⟩, Rt, p, l, e, R, s, m, args, below, meth, c, Q⟩ := X
  exact fun k1 k2 hn H locs ls hR hl hL => lv_lshr C.1 C.2.1 (ckd d) rfl (kk k1 k2 hn H locs ls hR hl hL)
theorem x_lcmp (C : xOK X) {a b : Int64} (d : ck (xcc X) pc .lcmp 1 = true) (kk : xAt X (pc + 1) L (.int (lg_cmp a b) :: st) k h) : xAt X pc L (.long b :: .long a :: st) k h := by
  obtain ⟨w, ⟨cc, own, yn, ret, mc, ms, rf, rl⟩, Rt, p, l, e, R, s, m, args, below, meth, c, Q⟩ := X
  exact fun k1 k2 hn H locs ls hR hl hL => W.lcmp C.1 C.2.1 (ckd d) (kk k1 k2 hn H locs ls hR hl hL)
theorem x_ineg (C : xOK X) {a : Int32} (d : ck (xcc X) pc .ineg 1 = true) (kk : xAt X (pc + 1) L (.int (-a) :: st) k h) : xAt X pc L (.int a :: st) k h := by
  obtain ⟨w, ⟨cc, own, yn, ret, mc, ms, rf, rl⟩, Rt, p, l, e, R, s, m, args, below, meth, c, Q⟩ := X
  exact fun k1 k2 hn H locs ls hR hl hL => lv_ineg C.1 C.2.1 (ckd d) (kk k1 k2 hn H locs ls hR hl hL)
theorem x_lneg (C : xOK X) {a : Int64} (d : ck (xcc X) pc .lneg 1 = true) (kk : xAt X (pc + 1) L (.long (-a) :: st) k h) : xAt X pc L (.long a :: st) k h := by
  obtain ⟨w, ⟨cc, own, yn, ret, mc, ms, rf, rl⟩, Rt, p, l, e, R, s, m, args, below, meth, c, Q⟩ := X
  exact fun k1 k2 hn H locs ls hR hl hL => lv_lneg C.1 C.2.1 (ckd d) (kk k1 k2 hn H locs ls hR hl hL)
theorem x_i2l (C : xOK X) {a : Int32} (d : ck (xcc X) pc .i2l 1 = true) (kk : xAt X (pc + 1) L (.long a.toInt64 :: st) k h) : xAt X pc L (.int a :: st) k h := by
  obtain ⟨w, ⟨cc, own, yn, ret, mc, ms, rf, rl⟩, Rt, p, l, e, R, s, m, args, below, meth, c, Q⟩ := X
  exact fun k1 k2 hn H locs ls hR hl hL => lv_i2l C.1 C.2.1 (ckd d) rfl (kk k1 k2 hn H locs ls hR hl hL)
theorem x_l2i (C : xOK X) {a : Int64} (d : ck (xcc X) pc .l2i 1 = true) (kk : xAt X (pc + 1) L (.int a.toInt32 :: st) k h) : xAt X pc L (.long a :: st) k h := by
  obtain ⟨w, ⟨cc, own, yn, ret, mc, ms, rf, rl⟩, Rt, p, l, e, R, s, m, args, below, meth, c, Q⟩ := X
  exact fun k1 k2 hn H locs ls hR hl hL => lv_l2i C.1 C.2.1 (ckd d) rfl (kk k1 k2 hn H locs ls hR hl hL)
theorem x_dup (C : xOK X) {v : Value} (hv : v.category = 1) (d : ck (xcc X) pc .dup 1 = true) (kk : xAt X (pc + 1) L (v :: v :: st) k h) : xAt X pc L (v :: st) k h := by
  obtain ⟨w, ⟨cc, own, yn, ret, mc, ms, rf, rl⟩, Rt, p, l, e, R, s, m, args, below, meth, c, Q⟩ := X
  exact fun k1 k2 hn H locs ls hR hl hL => lv_dup C.1 C.2.1 (ckd d) (by rw [xtr_cat]; exact hv) (kk k1 k2 hn H locs ls hR hl hL)
theorem x_pop (C : xOK X) {v : Value} (hv : v.category = 1) (d : ck (xcc X) pc .pop 1 = true) (kk : xAt X (pc + 1) L st k h) : xAt X pc L (v :: st) k h := by
  obtain ⟨w, ⟨cc, own, yn, ret, mc, ms, rf, rl⟩, Rt, p, l, e, R, s, m, args, below, meth, c, Q⟩ := X
  exact fun k1 k2 hn H locs ls hR hl hL => lv_pop C.1 C.2.1 (ckd d) (by rw [xtr_cat]; exact hv) (kk k1 k2 hn H locs ls hR hl hL)
theorem x_dup2 (C : xOK X) {v u : Value} (hv : v.category = 1) (hu : u.category = 1) (d : ck (xcc X) pc .dup2 1 = true) (kk : xAt X (pc + 1) L (v :: u :: v :: u :: st) k h) : xAt X pc L (v :: u :: st) k h := by
  obtain ⟨w, ⟨cc, own, yn, ret, mc, ms, rf, rl⟩, Rt, p, l, e, R, s, m, args, below, meth, c, Q⟩ := X
  exact fun k1 k2 hn H locs ls hR hl hL => lv_dup2_11 C.1 C.2.1 (ckd d) (by rw [xtr_cat]; exact hv) (by rw [xtr_cat]; exact hu) (kk k1 k2 hn H locs ls hR hl hL)
theorem x_goto (C : xOK X) {tgt : Nat} (d : ck (xcc X) pc (.goto ((tgt : Int) - (pc : Int))) 3 = true) (kk : xAt X tgt L st k h) : xAt X pc L st k h := by
  obtain ⟨w, ⟨cc, own, yn, ret, mc, ms, rf, rl⟩, Rt, p, l, e, R, s, m, args, below, meth, c, Q⟩ := X
  exact fun k1 k2 hn H locs ls hR hl hL => lv_goto C.1 C.2.1 (ckd d) (by omega) (kk k1 k2 hn H locs ls hR hl hL)
theorem x_if (C : xOK X) {cd : ClassFile.Cond} {tgt : Nat} {a : Int32} (d : ck (xcc X) pc (.ifCond cd ((tgt : Int) - (pc : Int))) 3 = true) (kt : xcm cd a 0 = true → xAt X tgt L st k h) (kf : xcm cd a 0 = false → xAt X (pc + 3) L st k h) : xAt X pc L (.int a :: st) k h := by
  obtain ⟨w, ⟨cc, own, yn, ret, mc, ms, rf, rl⟩, Rt, p, l, e, R, s, m, args, below, meth, c, Q⟩ := X
  intro k1 k2 hn H locs ls hR hl hL
  cases cd with
  | eq => exact lv_if_eq C.1 C.2.1 (ckd d) (by omega) (fun z => kt (decide_eq_true z) k1 k2 hn H locs ls hR hl hL) (fun z => kf (decide_eq_false z) k1 k2 hn H locs ls hR hl hL)
  | ne => exact lv_if_ne C.1 C.2.1 (ckd d) (by omega) (fun z => kt (by simpa [xcm] using z) k1 k2 hn H locs ls hR hl hL) (fun z => kf (by simpa [xcm] using z) k1 k2 hn H locs ls hR hl hL)
  | lt => exact lv_if_lt C.1 C.2.1 (ckd d) (by omega) (fun z => kt (decide_eq_true z) k1 k2 hn H locs ls hR hl hL) (fun z => kf (decide_eq_false z) k1 k2 hn H locs ls hR hl hL)
  | ge => exact lv_if_ge C.1 C.2.1 (ckd d) (by omega) (fun z => kt (decide_eq_true z) k1 k2 hn H locs ls hR hl hL) (fun z => kf (decide_eq_false z) k1 k2 hn H locs ls hR hl hL)
  | gt => exact lv_if_gt C.1 C.2.1 (ckd d) (by omega) (fun z => kt (decide_eq_true z) k1 k2 hn H locs ls hR hl hL) (fun z => kf (decide_eq_false z) k1 k2 hn H locs ls hR hl hL)
  | le => exact lv_if_le C.1 C.2.1 (ckd d) (by omega) (fun z => kt (decide_eq_true z) k1 k2 hn H locs ls hR hl hL) (fun z => kf (decide_eq_false z) k1 k2 hn H locs ls hR hl hL)
theorem x_icmp (C : xOK X) {cd : ClassFile.Cond} {tgt : Nat} {a b : Int32} (d : ck (xcc X) pc (.if_icmp cd ((tgt : Int) - (pc : Int))) 3 = true) (kt : xcm cd a b = true → xAt X tgt L st k h) (kf : xcm cd a b = false → xAt X (pc + 3) L st k h) : xAt X pc L (.int b :: .int a :: st) k h := by
  obtain ⟨w, ⟨cc, own, yn, ret, mc, ms, rf, rl⟩, Rt, p, l, e, R, s, m, args, below, meth, c, Q⟩ := X
  intro k1 k2 hn H locs ls hR hl hL
  cases cd with
  | eq => exact lv_icmp_eq C.1 C.2.1 (ckd d) (by omega) (fun z => kt (decide_eq_true z) k1 k2 hn H locs ls hR hl hL) (fun z => kf (decide_eq_false z) k1 k2 hn H locs ls hR hl hL)
  | ne => exact lv_icmp_ne C.1 C.2.1 (ckd d) (by omega) (fun z => kt (by simpa [xcm] using z) k1 k2 hn H locs ls hR hl hL) (fun z => kf (by simpa [xcm] using z) k1 k2 hn H locs ls hR hl hL)
  | lt => exact lv_icmp_lt C.1 C.2.1 (ckd d) (by omega) (fun z => kt (decide_eq_true z) k1 k2 hn H locs ls hR hl hL) (fun z => kf (decide_eq_false z) k1 k2 hn H locs ls hR hl hL)
  | ge => exact lv_icmp_ge C.1 C.2.1 (ckd d) (by omega) (fun z => kt (decide_eq_true z) k1 k2 hn H locs ls hR hl hL) (fun z => kf (decide_eq_false z) k1 k2 hn H locs ls hR hl hL)
  | gt => exact lv_icmp_gt C.1 C.2.1 (ckd d) (by omega) (fun z => kt (decide_eq_true z) k1 k2 hn H locs ls hR hl hL) (fun z => kf (decide_eq_false z) k1 k2 hn H locs ls hR hl hL)
  | le => exact lv_icmp_le C.1 C.2.1 (ckd d) (by omega) (fun z => kt (decide_eq_true z) k1 k2 hn H locs ls hR hl hL) (fun z => kf (decide_eq_false z) k1 k2 hn H locs ls hR hl hL)
def xnz (v : Value) : Bool := match v with
  | .ref _ => true
  | .retAddr _ => true
  | _ => false
theorem x_ifnull (C : xOK X) {tgt : Nat} {v : Value} (hr : xisr v = true) (d : ck (xcc X) pc (.ifnull ((tgt : Int) - (pc : Int))) 3 = true) (kt : xnz v = false → xAt X tgt L st k h) (kf : xnz v = true → xAt X (pc + 3) L st k h) : xAt X pc L (v :: st) k h := by
  obtain ⟨w, ⟨cc, own, yn, ret, mc, ms, rf, rl⟩, Rt, p, l, e, R, s, m, args, below, meth, c, Q⟩ := X
  intro k1 k2 hn H locs ls hR hl hL
  cases v with
  | ref a => exact lv_ifnull C.1 C.2.1 (ckd d) (kf rfl k1 k2 hn H locs ls hR hl hL)
  | retAddr a => exact lv_ifnull C.1 C.2.1 (ckd d) (kf rfl k1 k2 hn H locs ls hR hl hL)
  | null => exact lv_ifnullN C.1 C.2.1 (ckd d) (by omega) (kt rfl k1 k2 hn H locs ls hR hl hL)
  | _ => simp [xisr] at hr
theorem x_ifnonnull (C : xOK X) {tgt : Nat} {v : Value} (hr : xisr v = true) (d : ck (xcc X) pc (.ifnonnull ((tgt : Int) - (pc : Int))) 3 = true) (kt : xnz v = true → xAt X tgt L st k h) (kf : xnz v = false → xAt X (pc + 3) L st k h) : xAt X pc L (v :: st) k h := by
  obtain ⟨w, ⟨cc, own, yn, ret, mc, ms, rf, rl⟩, Rt, p, l, e, R, s, m, args, below, meth, c, Q⟩ := X
  intro k1 k2 hn H locs ls hR hl hL
  cases v with
  | ref a => exact lv_ifnonnull C.1 C.2.1 (ckd d) (by omega) (kt rfl k1 k2 hn H locs ls hR hl hL)
  | retAddr a => exact lv_ifnonnull C.1 C.2.1 (ckd d) (by omega) (kt rfl k1 k2 hn H locs ls hR hl hL)
  | null => exact lv_ifnonnullN C.1 C.2.1 (ckd d) (kf rfl k1 k2 hn H locs ls hR hl hL)
  | _ => simp [xisr] at hr
/-- a switch: the targets by their places -/
theorem x_tsw (C : xOK X) {dt : Nat} {lo hi : Int} {ts : List Nat} {len : Nat} {a : Int32} (d : ck (xcc X) pc (.tableswitch ((dt : Int) - (pc : Int)) lo hi (ts.map (fun t => ((t : Nat) : Int) - (pc : Int))).toArray) len = true)
    (hlen : (ts.length : Int) = hi - lo + 1) (kd : (a.toInt < lo ∨ hi < a.toInt) → xAt X dt L st k h) (ki : ∀ (j t : Nat), ts[j]? = some t → a.toInt = lo + j → xAt X t L st k h) : xAt X pc L (.int a :: st) k h := by
  obtain ⟨w, ⟨cc, own, yn, ret, mc, ms, rf, rl⟩, Rt, p, l, e, R, s, m, args, below, meth, c, Q⟩ := X
  intro k1 k2 hn H locs ls hR hl hL
  by_cases h1 : a.toInt < lo ∨ hi < a.toInt
  · exact lv_tableOut C.1 C.2.1 (ckd d) h1 (by omega) (kd h1 k1 k2 hn H locs ls hR hl hL)
  · have ha : ¬ a.toInt < lo := fun z => h1 (Or.inl z)
    have hb : ¬ hi < a.toInt := fun z => h1 (Or.inr z)
    have hj : (a.toInt - lo).toNat < ts.length := by omega
    refine lv_tableIn (tgt := ts[(a.toInt - lo).toNat]) C.1 C.2.1 (ckd d) ha hb (off := ((ts[(a.toInt - lo).toNat] : Nat) : Int) - (pc : Int)) (by simp [hj]) (by omega) (ki _ _ (List.getElem?_eq_getElem hj) (by omega) k1 k2 hn H locs ls hR hl hL)
end XI
