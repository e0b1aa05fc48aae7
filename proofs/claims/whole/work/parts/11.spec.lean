/-! what is special: the script, texts, copies of arrays -/
section XX
variable {X : xCtx} {pc : Nat} {L st : List Value} {k : Nat × Nat} {h : AH}
theorem x_ixor (C : xOK X) {a b : Int32} (d : ck (xcc X) pc .ixor 1 = true) (kk : xAt X (pc + 1) L (.int (a ^^^ b) :: st) k h) : xAt X pc L (.int b :: .int a :: st) k h := by
  obtain ⟨w, ⟨cc, own, yn, ret, mc, ms, rf, rl⟩, Rt, p, l, e, R, s, m, args, below, meth, c, Q⟩ := X
  exact fun k1 k2 hn H locs ls hR hl hL => lv_ixor C.1 C.2.1 (ckd d) (kk k1 k2 hn H locs ls hR hl hL)
theorem x_lxor (C : xOK X) {a b : Int64} (d : ck (xcc X) pc .lxor 1 = true) (kk : xAt X (pc + 1) L (.long (a ^^^ b) :: st) k h) : xAt X pc L (.long b :: .long a :: st) k h := by
  obtain ⟨w, ⟨cc, own, yn, ret, mc, ms, rf, rl⟩, Rt, p, l, e, R, s, m, args, below, meth, c, Q⟩ := X
  exact fun k1 k2 hn H locs ls hR hl hL => lv_lxor C.1 C.2.1 (ckd d) (kk k1 k2 hn H locs ls hR hl hL)
theorem x_slen (C : xOK X) {P : Nat × (Nat → Int32)} (hP : (xst X).2.1.2 = some P) (d : ck (xcc X) pc .arraylength 1 = true) (kk : xAt X (pc + 1) L (.int (Int32.ofNat P.1) :: st) k h) : xAt X pc L (.retAddr 0 :: st) k h := by
  obtain ⟨w, ⟨cc, own, yn, ret, mc, ms, rf, rl⟩, Rt, p, l, e, R, s, m, args, below, meth, c, Q⟩ := X
  intro k1 k2 hn H locs ls hR hl hL
  obtain ⟨⟨scr, h1, h2, h3, h4, h5⟩, hb⟩ := C.2.2.2.2.1.2.2.2.2
  have hw : P = w.2.2.2.2 := by
    rcases C.2.2.2.2.2.2.2.1 with z | z
    · exact absurd (z.symm.trans hP) (by simp)
    · exact Option.some.inj (hP.symm.trans z)
  subst hw
  exact W.alen C.1 C.2.1 (by rw [hR.2.1 _ hb]; exact h1) h2 (by rw [h4]) rfl rfl (ckd d) (kk k1 k2 hn H locs ls hR hl hL)
theorem x_sald (C : xOK X) {P : Nat × (Nat → Int32)} (hP : (xst X).2.1.2 = some P) {i : Int32} (hi : xinb i P.1 = true) (d : ck (xcc X) pc .iaload 1 = true) (kk : xAt X (pc + 1) L (.int (P.2 i.toNatClampNeg) :: st) k h) : xAt X pc L (.int i :: .retAddr 0 :: st) k h := by
  obtain ⟨w, ⟨cc, own, yn, ret, mc, ms, rf, rl⟩, Rt, p, l, e, R, s, m, args, below, meth, c, Q⟩ := X
  intro k1 k2 hn H locs ls hR hl hL
  obtain ⟨⟨scr, h1, h2, h3, h4, h5⟩, hb⟩ := C.2.2.2.2.1.2.2.2.2
  have hw : P = w.2.2.2.2 := by
    rcases C.2.2.2.2.2.2.2.1 with z | z
    · exact absurd (z.symm.trans hP) (by simp)
    · exact Option.some.inj (hP.symm.trans z)
  subst hw
  have hin := xinb_vp hi
  have hlt : i.toNatClampNeg < w.2.2.2.2.1 := Nat.not_le.mp fun q => hin (Or.inr q)
  exact W.iald C.1 C.2.1 (by rw [hR.2.1 _ hb]; exact h1) h2 h3 (by rw [h4]; exact hin) (h5 _ hlt) rfl rfl (ckd d) (kk k1 k2 hn H locs ls hR hl hL)
theorem x_str (C : xOK X) (ho : xown X = "CornerCuts") {i : Nat} (hi : i < 6) (d : ck (xcc X) pc (.ldc_w (422 + 2 * i)) 3 = true) (kk : xAt X (pc + 3) L (.retAddr (1 + i) :: st) k h) : xAt X pc L st k h := by
  obtain ⟨w, ⟨cc, own, yn, ret, mc, ms, rf, rl⟩, Rt, p, l, e, R, s, m, args, below, meth, c, Q⟩ := X
  intro k1 k2 hn H locs ls hR hl hL
  have ho : own = "CornerCuts" := ho
  subst ho
  have hz := C.2.2.2.2.1.2.2.2.1.2.1 i hi
  intro T hT Y
  obtain ⟨t, a1, b1⟩ := kk k1 k2 hn H locs ls hR hl hL T hT Y
  refine ⟨t, Y.ldcStringW C.1 (own := "CornerCuts") (text := xtx.getD i "") (a := w.2.2.2.1 (1 + i)) C.2.2.1 ?_ ?_ (g := F0 m pc ls (st.map (xtr w))) rfl (by rw [C.2.1]; exact ckd d) t a1, b1⟩
  · exact hz.1
  · exact hz.2
def xacw (S : xS) (i : Nat) : Bool := decide (Cond.methodLink S.1 i arraycopyName ∈ xG) && decide (Cond.native arraycopyName ∈ xG) && decide (Cond.static arraycopyName ∈ xG) && decide (Cond.initialized "java/lang/System" ∈ xG) && decide (1 ≤ S.2.2.2.2.2.1) && decide (8 + (nativeFrameWords "java/lang/System" "arraycopy" 5 + 11) ≤ S.2.2.2.2.2.2)
theorem x_acp (C : xOK X) {i a b n0 n1 : Nat} {f g : Nat → Int32} {sp dp n : Int32} (hok : xacw (xst X) i = true) (hab : a ≠ b) (ha : h.2 a = some (.inl (.int, n0, .inl f))) (hb : h.2 b = some (.inl (.int, n1, .inl g))) (h1 : 0 ≤ sp) (h2 : 0 ≤ dp) (h3 : 0 ≤ n) (h4 : sp.toNatClampNeg + n.toNatClampNeg ≤ n0) (h5 : dp.toNatClampNeg + n.toNatClampNeg ≤ n1) (hcat : xcat st ≤ 8) (d : ck (xcc X) pc (.invokestatic i) 3 = true) (kk : xAt X (pc + 3) L st k (xput h b (.inl (.int, n1, .inl (va_cpy f g sp.toNatClampNeg dp.toNatClampNeg n.toNatClampNeg))))) : xAt X pc L (.int n :: .int dp :: .ref b :: .int sp :: .ref a :: st) k h := by
  obtain ⟨w, ⟨cc, own, yn, ret, mc, ms, rf, rl⟩, Rt, p, l, e, R, s, m, args, below, meth, c, Q⟩ := X
  intro k1 k2 hn H locs ls hR hl hL
  obtain ⟨hx, hbc, hown, hts, hKK, hRm, -, -⟩ := C
  simp only [xacw, Bool.and_eq_true, decide_eq_true_eq] at hok
  have ht0 : (xty.map (fun t => (w.2.2.1 t, t)))[0]? = some (w.2.2.1 .int, .int) := rfl
  have nn : ∀ z : Int32, 0 ≤ z → z.toInt = (z.toNatClampNeg : Int) := by
    intro z hz
    have hz0 : (0 : Int) ≤ z.toInt := by simpa using Int32.le_iff_toInt_le.mp hz
    show z.toInt = ((z.toInt.toNat : Nat) : Int)
    omega
  have hc0 : H[w.1.size + a]? = some (vp_cell (w.2.2.1 .int) (n0, .inl f)) := hR.2.2 a _ ha
  have hc1 : H[w.1.size + b]? = some (vp_cell (w.2.2.1 .int) (n1, .inl g)) := hR.2.2 b _ hb
  intro T hT Y
  obtain ⟨-, k0, hk0, cm0, hkk0⟩ := (hKK.1.2 0 _ ht0).1 n0 (fun j => .int (f j))
  have hcs := xcat_tr w st
  obtain ⟨vm', X', step⟩ := Y.arraycopy hx hown (hts _ hok.1.1.1.1.1) (hts _ hok.1.1.1.1.2) (hts _ hok.1.1.1.2) (hts _ hok.1.1.2) (src := w.1.size + a) (dst := w.1.size + b) (cs := vp_cell (w.2.2.1 .int) (n0, .inl f)) (cd := vp_cell (w.2.2.1 .int) (n1, .inl g)) (srcPos := sp) (destPos := dp) (n := n) (by rw [hT]; exact hc0) (by rw [hT]; exact hc1)
    (fun _ z => by cases z) (fun _ z => by cases z) (fun z => by cases z) (fun z => by cases z) hk0 hk0 hkk0 hkk0 (by simp [refKind]) (Int32.not_lt.mpr h1) (Int32.not_lt.mpr h2) (Int32.not_lt.mpr h3)
    (by rw [nn sp h1, nn n h3]; show ¬ _ > ((arrV (w.2.2.1 .int) n0 (fun j => .int (f j))).slots.size : Int); rw [arrV_size]; omega)
    (by rw [nn dp h2, nn n h3]; show ¬ _ > ((arrV (w.2.2.1 .int) n1 (fun j => .int (g j))).slots.size : Int); rw [arrV_size]; omega)
    (fun vm₁ _ i hi => by
      have e9 : (vp_cell (w.2.2.1 .int) (n0, .inl f)).slots.getD (sp.toNatClampNeg + i) .null = .int (f (sp.toNatClampNeg + i)) := by
        show (arrV (w.2.2.1 .int) n0 (fun j => .int (f j))).slots.getD _ _ = _
        rw [Array.getD_eq_getD_getElem?, arrV_read _ _ (by omega)]
        rfl
      refine ⟨?_, ?_⟩
      · rw [e9]; rfl
      · rw [e9]; exact trivial)
    (g := F0 m pc ls (.int n :: .int dp :: .ref (w.1.size + b) :: .int sp :: .ref (w.1.size + a) :: st.map (xtr w))) rfl (by rw [← hn]; exact hL.1) (rest := st.map (xtr w)) rfl (by rw [hbc]; exact ckd d) (by rw [hRm.2.2.1]; exact hok.1.2) (by
      have h8 : 8 + (nativeFrameWords "java/lang/System" "arraycopy" 5 + 11) ≤ R.locals := by rw [hRm.2.2.2]; exact hok.2
      show 2 * 0 + _ + _ ≤ _
      rw [hcs]
      omega)
  have e1 : copied (vp_cell (w.2.2.1 .int) (n0, .inl f)) (vp_cell (w.2.2.1 .int) (n1, .inl g)) sp dp n = vp_cell (w.2.2.1 .int) (n1, .inl (va_cpy f g sp.toNatClampNeg dp.toNatClampNeg n.toNatClampNeg)) := va_copied (fun z => .int z) (w.2.2.1 .int) (w.2.2.1 .int) f g h4
  rw [e1] at X' step
  have hlb : w.1.size + b < H.size := (Array.getElem?_eq_some_iff.mp hc1).1
  obtain ⟨t, a1, b1⟩ := kk k1 k2 hn (H.setIfInBounds (w.1.size + b) (vp_cell (w.2.2.1 .int) (n1, .inl (va_cpy f g sp.toNatClampNeg dp.toNatClampNeg n.toNatClampNeg)))) _ ls (hR.put (show (H.setIfInBounds (w.1.size + b) _)[w.1.size + b]? = some _ by simp [Array.getElem?_setIfInBounds, hlb]; rfl) (by simp) (fun q hq => by simp [Array.getElem?_setIfInBounds, Ne.symm hq])) (fun q hq => by
      rcases List.mem_append.mp hq with z | z
      · exact hl q z
      · obtain ⟨z, -, hz⟩ := List.mem_map.mp z
        rw [← hz]
        exact Nat.le_add_right _ _) hL _ (by rw [← hT]; rfl) X'
  exact ⟨t, step t a1, b1⟩
end XX
section XY
variable {S : xS}
def oXor : BO S := ⟨(.ixor, 1, 1, fII (fun a b => a ^^^ b)), gII x_ixor⟩
def oXorL : BO S := ⟨(.lxor, 1, 2, fLL (fun a b => a ^^^ b)), gLL x_lxor⟩
/-- if (c) return ..; break -/
def sIfB (c : DN S) (a : SN S) : SN S := ⟨(c.1.1 + a.1.1, fun cc pc _ bt ct => decide (c.1.2.1 ≤ 8) && c.1.2.2.1 false cc pc bt (pc + c.1.1) && a.1.2.1 cc (pc + c.1.1) (pc + c.1.1 + a.1.1) bt ct, fun L k h _ B Ct R => c.1.2.2.2 L k h (fun v k' h' => if v = true then a.1.2.2 L k' h' (fun _ _ _ => False) B Ct R else B L k' h')), by
  intro X C hS pc x bt ct hc hx L k h N B Ct R hs hN hB hCt hR
  obtain ⟨h01, h2⟩ := xand hc
  obtain ⟨h0, h1⟩ := xand h01
  refine c.2 X C hS false pc bt (pc + c.1.1) h1 xEx.rf L [] k h _ (by have := of_decide_eq_true h0; simp [xcat]; omega) hs (fun v k' h' hq z => ?_) (fun v k' h' hq z => ?_)
  · subst z; exact hB _ _ _ hq
  · have hv : v = true := by simpa using z
    subst hv
    exact a.2 X C hS (pc + c.1.1) (pc + c.1.1 + a.1.1) bt ct h2 xEx.rf L k' h' _ B Ct R hq (fun _ _ _ z => z.elim) hB hCt hR⟩
/-- the end of a block that has variables of its own: jumps end there -/
def sSc (a : SN S) : SN S := ⟨(a.1.1, fun cc pc _ bt ct => a.1.2.1 cc pc (pc + a.1.1) bt ct, fun L k h N B Ct R => a.1.2.2 L k h N B Ct R), by
  intro X C hS pc x bt ct hc hx L k h N B Ct R hs hN hB hCt hR
  exact a.2 X C hS pc (pc + a.1.1) bt ct hc xEx.rf L k h N B Ct R hs (fun L' k' h' hq => hx _ _ _ _ (hN _ _ _ hq)) hB hCt hR⟩
def fScrL (P : Nat × (Nat → Int32)) (v : Value) : Option Value := match v with
  | .retAddr 0 => some (.int (Int32.ofNat P.1))
  | _ => none
def fScr (P : Nat × (Nat → Int32)) (u v : Value) : Option Value := match u, v with
  | .retAddr 0, .int i => if xinb i P.1 = true then some (.int (P.2 i.toNatClampNeg)) else none
  | _, _ => none
def oScrL (P : Nat × (Nat → Int32)) (hP : S.2.1.2 = some P) : UO S := ⟨(.arraylength, 1, 1, fun _ => fScrL P), by
  intro X C hS pc L st k h a b hv d
  simp only [fScrL] at hv
  split at hv
  · cases hv; subst hS; exact ⟨Nat.le_refl _, x_slen C hP d⟩
  · cases hv⟩
def oScr (P : Nat × (Nat → Int32)) (hP : S.2.1.2 = some P) : BO S := ⟨(.iaload, 1, 1, fun _ => fScr P), by
  intro X C hS pc L st k h a b v hv d
  simp only [fScr] at hv
  split at hv
  · split at hv
    · next hi => cases hv; subst hS; exact ⟨Nat.le_refl _, x_sald C hP hi d⟩
    · cases hv
  · cases hv⟩
def pStr (i : Nat) (hi : i < 6) (ho : S.1 = "CornerCuts") : PN S := ⟨(3, 1, fun cc pc _ => ck cc pc (.ldc_w (422 + 2 * i)) 3, fun _ _ => some (.retAddr (1 + i))), by
  intro X C hS pc x hc hx L st k h v hv
  cases hv
  subst hS
  exact ⟨Nat.le_refl _, fun kk => x_str C ho hi hc (hx _ _ _ _ kk)⟩⟩
/-- System.arraycopy of ints, between two arrays -/
def fAcp (h : AH) (vs : List Value) : Option AH := match vs with
  | [.ref a, .int sp, .ref b, .int dp, .int n] => match h.2 a, h.2 b with
    | some (.inl (.int, n0, .inl f)), some (.inl (.int, n1, .inl g)) => if a ≠ b ∧ 0 ≤ sp ∧ 0 ≤ dp ∧ 0 ≤ n ∧ sp.toNatClampNeg + n.toNatClampNeg ≤ n0 ∧ dp.toNatClampNeg + n.toNatClampNeg ≤ n1 then some (xput h b (.inl (.int, n1, .inl (va_cpy f g sp.toNatClampNeg dp.toNatClampNeg n.toNatClampNeg)))) else none
    | _, _ => none
  | _ => none
def kAc (i : Nat) (a : AN S) (hok : xacw S i = true) : KN S := ⟨(a.1.1 + 3, a.1.2.2.1, fun cc pc => a.1.2.2.2.1 cc pc && ck cc (pc + a.1.1) (.invokestatic i) 3, fun L k h Q => a.1.2.2.2.2 L k h (fun vs k2 h2 => ∃ h', fAcp h2 vs = some h' ∧ Q none k2 h')), by
  intro X C hS pc hc L st k h Q hd hs kk
  obtain ⟨h1, h2⟩ := xand hc
  have hd : xcat st + a.1.2.2.1 ≤ 8 := hd
  refine a.2 X C hS pc h1 L st k h _ hd hs (fun vs k2 h2' hl hr => ?_)
  obtain ⟨h', hf, hq⟩ := hr
  simp only [fAcp] at hf
  split at hf
  · split at hf
    · split at hf
      · next ha hb hh =>
        cases hf
        subst hS
        have h9 := kk none k2 _ hq
        rw [← Nat.add_assoc] at h9
        exact x_acp C hok hh.1 ha hb hh.2.1 hh.2.2.1 hh.2.2.2.1 hh.2.2.2.2.1 hh.2.2.2.2.2 (Nat.le_trans (Nat.le_add_right _ _) hd) h2 h9
      · cases hf
    · cases hf
  · cases hf⟩
end XY
section XZ
variable {S : xS}
/-- an array that is filled as it is made: dup, place, value, store -/
def eFl (o : TO S) (a : EN S) (j v : PN S) : EN S := ⟨(a.1.1 + 1 + j.1.1 + v.1.1 + 1, a.1.2.1, a.1.2.2.1, fun cc pc _ => a.1.2.2.2.1 cc pc (pc + a.1.1) && ck cc (pc + a.1.1) .dup 1 && j.1.2.2.1 cc (pc + a.1.1 + 1) (pc + a.1.1 + 1 + j.1.1) && v.1.2.2.1 cc (pc + a.1.1 + 1 + j.1.1) (pc + a.1.1 + 1 + j.1.1 + v.1.1) && ck cc (pc + a.1.1 + 1 + j.1.1 + v.1.1) o.1.1 1,
    fun L k h Q => a.1.2.2.2.2 L k h (fun u k' h' => u.category = 1 ∧ ∃ jv, j.1.2.2.2 L h' = some jv ∧ ∃ vv, v.1.2.2.2 L h' = some vv ∧ ∃ h2, o.1.2 h' u jv vv = some h2 ∧ Q u k' h2)), by
  intro X C hS pc x hc hx L st k h Q hd hs kk
  obtain ⟨hc, h4⟩ := xand hc
  obtain ⟨hc, h3⟩ := xand hc
  obtain ⟨hc, h2⟩ := xand hc
  obtain ⟨h0, h1⟩ := xand hc
  refine a.2 X C hS pc (pc + a.1.1) h0 xEx.rf L st k h _ hd hs (fun u k' h' hu hq => ?_)
  obtain ⟨hcat, jv, hj, vv, hv, h2', ho, hq⟩ := hq
  refine x_dup C hcat h1 ((j.2 X C hS _ _ h2 xEx.rf L (u :: u :: st) k' h' jv hj).2 ((v.2 X C hS _ _ h3 xEx.rf L _ k' h' vv hv).2 ?_))
  have e9 : pc + (a.1.1 + 1 + j.1.1 + v.1.1 + 1) = pc + a.1.1 + 1 + j.1.1 + v.1.1 + 1 := by omega
  exact o.2 X C hS _ L (u :: st) k' h' u jv vv h2' ho h4 (by rw [← e9]; exact hx _ _ _ _ (kk u k' h2' hu hq))⟩
end XZ
def g_J_Math_max : xSig := (yJ9_max_7cf53, cJ9_max_7cf53, 2, some .int, { frames := 0, cells := 0, slots := 0, locals := 0 })
def g_J_Math_min : xSig := (yJ9_min_7cf53, cJ9_min_7cf53, 2, some .int, { frames := 0, cells := 0, slots := 0, locals := 0 })
def g_J_Math_abs : xSig := (yJ9_abs_0f7a4, cJ9_abs_0f7a4, 1, some .int, { frames := 0, cells := 0, slots := 0, locals := 0 })
def g_J_Math_floorDiv : xSig := (yJ9_floorDiv_7cf53, cJ9_floorDiv_7cf53, 3, some .int, { frames := 0, cells := 0, slots := 0, locals := 0 })
def g_J_Math_floorMod : xSig := (yJ9_floorMod_7cf53, cJ9_floorMod_7cf53, 3, some .int, { frames := 0, cells := 0, slots := 0, locals := 0 })
def g_J_Math_floorModL : xSig := (yJ9_floorMod_f86c9, cJ9_floorMod_f86c9, 6, some .long, { frames := 0, cells := 0, slots := 0, locals := 0 })
def g_J_Arrays_fillI : xSig := (yJ7_fill_53178, cJ7_fill_53178, 4, none, { frames := 0, cells := 0, slots := 0, locals := 0 })
def g_J_Arrays_fillL : xSig := (yJ7_fill_d0a16, cJ7_fill_d0a16, 5, none, { frames := 0, cells := 0, slots := 0, locals := 0 })
def SJ (g : xSig) : xS := (g.1.cls, (g.1.name, none), g.2.2.2.1, g.2.2.2.2.cells, g.2.2.2.2.slots, g.2.2.2.2.frames, g.2.2.2.2.locals)
def b_J_Math_max : SN (SJ g_J_Math_max) := sR .ireturn (eP (pTn (cCm .ge (pIn 0) (pIn 1)) (pIn 0) (pIn 1)))
def b_J_Math_min : SN (SJ g_J_Math_min) := sR .ireturn (eP (pTn (cCm .le (pIn 0) (pIn 1)) (pIn 0) (pIn 1)))
def b_J_Math_abs : SN (SJ g_J_Math_abs) := sR .ireturn (eP (pTn (cIf .lt (pIn 0)) (pU oNeg (pIn 0)) (pIn 0)))
def b_J_Math_floorDiv : SN (SJ g_J_Math_floorDiv) := sSeq (sSt (lIn 2) (eP (pB oDiv (pIn 0) (pIn 1)))) (sSeq (sIf (dC (cAnd (cIf .lt (pB oXor (pIn 0) (pIn 1))) (cCm .ne (pB oMul (pIn 2) (pIn 1)) (pIn 0)))) (sR .ireturn (eP (pB oSub (pIn 2) (pIc 1))))) (sR .ireturn (eP (pIn 2))))
def b_J_Math_floorMod : SN (SJ g_J_Math_floorMod) := sSeq (sSt (lIn 2) (eP (pB oRem (pIn 0) (pIn 1)))) (sSeq (sIf (dC (cAnd (cIf .lt (pB oXor (pIn 0) (pIn 1))) (cIf .ne (pIn 2)))) (sR .ireturn (eP (pB oAdd (pIn 2) (pIn 1))))) (sR .ireturn (eP (pIn 2))))
def b_J_Math_floorModL : SN (SJ g_J_Math_floorModL) := sSeq (sSt (lL 4) (eP (pB oRemL (pLn 0) (pLn 2)))) (sSeq (sIf (dC (cAnd (cIf .lt (pB oCmpL (pB oXorL (pLn 0) (pLn 2)) (pLc 0))) (cIf .ne (pB oCmpL (pL 4) (pLc 0))))) (sR .lreturn (eP (pB oAddL (pL 4) (pLn 2))))) (sR .lreturn (eP (pL 4))))
def b_J_Arrays_fillI : SN (SJ g_J_Arrays_fillI) := sSeq (sSt (lIn 2) (eP (pIc 0))) (sSeq (sSt (lIn 3) (eP (pU (oAlen 0 .int rfl) (pAn 0)))) (sSeq (sLp (dC (cCm .lt (pIn 2) (pIn 3))) (sAst tIast (eP (pAn 0)) (eP (pIn 2)) (eP (pIn 1))) (sInc 2 1) false) sRv))
def b_J_Arrays_fillL : SN (SJ g_J_Arrays_fillL) := sSeq (sSt (lIn 3) (eP (pIc 0))) (sSeq (sSt (lI 4) (eP (pU (oAlen 1 .long rfl) (pAn 0)))) (sSeq (sLp (dC (cCm .lt (pIn 3) (pI 4))) (sAst tLast (eP (pAn 0)) (eP (pIn 3)) (eP (pLn 1))) (sInc 3 1) false) sRv))
def m_J_Math_max : {M : xMS // xMeets g_J_Math_max M} := ⟨xM g_J_Math_max b_J_Math_max, xM_meets g_J_Math_max b_J_Math_max (by decide +kernel) (by decide +kernel)⟩
def m_J_Math_min : {M : xMS // xMeets g_J_Math_min M} := ⟨xM g_J_Math_min b_J_Math_min, xM_meets g_J_Math_min b_J_Math_min (by decide +kernel) (by decide +kernel)⟩
def m_J_Math_abs : {M : xMS // xMeets g_J_Math_abs M} := ⟨xM g_J_Math_abs b_J_Math_abs, xM_meets g_J_Math_abs b_J_Math_abs (by decide +kernel) (by decide +kernel)⟩
def m_J_Math_floorDiv : {M : xMS // xMeets g_J_Math_floorDiv M} := ⟨xM g_J_Math_floorDiv b_J_Math_floorDiv, xM_meets g_J_Math_floorDiv b_J_Math_floorDiv (by decide +kernel) (by decide +kernel)⟩
def m_J_Math_floorMod : {M : xMS // xMeets g_J_Math_floorMod M} := ⟨xM g_J_Math_floorMod b_J_Math_floorMod, xM_meets g_J_Math_floorMod b_J_Math_floorMod (by decide +kernel) (by decide +kernel)⟩
def m_J_Math_floorModL : {M : xMS // xMeets g_J_Math_floorModL M} := ⟨xM g_J_Math_floorModL b_J_Math_floorModL, xM_meets g_J_Math_floorModL b_J_Math_floorModL (by decide +kernel) (by decide +kernel)⟩
def m_J_Arrays_fillI : {M : xMS // xMeets g_J_Arrays_fillI M} := ⟨xM g_J_Arrays_fillI b_J_Arrays_fillI, xM_meets g_J_Arrays_fillI b_J_Arrays_fillI (by decide +kernel) (by decide +kernel)⟩
def m_J_Arrays_fillL : {M : xMS // xMeets g_J_Arrays_fillL M} := ⟨xM g_J_Arrays_fillL b_J_Arrays_fillL, xM_meets g_J_Arrays_fillL b_J_Arrays_fillL (by decide +kernel) (by decide +kernel)⟩
/-! words by their places -/
theorem xin_tbl {c : Cond} (h : c ∈ tables_1) : c ∈ lw_tbl := List.mem_append_right _ h
theorem xt1 {c : Cond} (h : c ∈ tables_1_1) : c ∈ lw_tbl := xin_tbl (List.mem_append_left _ h)
theorem xt2 {c : Cond} (h : c ∈ tables_1_2) : c ∈ lw_tbl := xin_tbl (List.mem_append_right _ (List.mem_append_left _ h))
theorem xt3 {c : Cond} (h : c ∈ tables_1_3) : c ∈ lw_tbl := xin_tbl (List.mem_append_right _ (List.mem_append_right _ (List.mem_append_left _ h)))
theorem xt4 {c : Cond} (h : c ∈ tables_1_4) : c ∈ lw_tbl := xin_tbl (List.mem_append_right _ (List.mem_append_right _ (List.mem_append_right _ (List.mem_append_left _ h))))
theorem xt5 {c : Cond} (h : c ∈ tables_1_5) : c ∈ lw_tbl := xin_tbl (List.mem_append_right _ (List.mem_append_right _ (List.mem_append_right _ (List.mem_append_right _ (List.mem_append_left _ h)))))
theorem xt6 {c : Cond} (h : c ∈ tables_1_6) : c ∈ lw_tbl := xin_tbl (List.mem_append_right _ (List.mem_append_right _ (List.mem_append_right _ (List.mem_append_right _ (List.mem_append_right _ (List.mem_append_left _ h))))))
theorem xt7 {c : Cond} (h : c ∈ tables_1_7) : c ∈ lw_tbl := xin_tbl (List.mem_append_right _ (List.mem_append_right _ (List.mem_append_right _ (List.mem_append_right _ (List.mem_append_right _ (List.mem_append_right _ (List.mem_append_left _ h)))))))
theorem xt8 {c : Cond} (h : c ∈ tables_1_8) : c ∈ lw_tbl := xin_tbl (List.mem_append_right _ (List.mem_append_right _ (List.mem_append_right _ (List.mem_append_right _ (List.mem_append_right _ (List.mem_append_right _ (List.mem_append_right _ h)))))))
theorem xg_of {c : Cond} (h : c ∈ lw_tbl) (hg : goodWord c = true) : c ∈ xG := List.mem_filter.mpr ⟨h, hg⟩
theorem xn_of {c : Cond} (h : c ∈ lw_tbl) (hg : xnb c = true) : c ∈ xN := List.mem_filter.mpr ⟨h, hg⟩
theorem xsel_of {q : MethodName × Nat} (h : q ∈ lw_privs) : Cond.selects q.1.cls q.1 q.1 ∈ xG := xg_of (List.mem_append_left _ (List.mem_map.mpr ⟨q, h, rfl⟩)) rfl
def xCG (g : xSig) (np : Nat) : Prop := Cond.initialized g.1.cls ∈ xG ∧ Cond.code g.1 g.2.1 g.2.2.1 g.2.2.2.1 ∈ xG ∧ (g.1.cls ≠ "java/lang/invoke/MethodHandle" ∧ g.1.cls ≠ "java/lang/invoke/VarHandle") ∧ (parseMethodDescriptor g.1.desc).map (fun d => d.parameters.length) = some np
def xLK (own : String) (i : Nat) (y : MethodName) : Prop := Cond.methodLink own i y ∈ xG ∨ Cond.methodLinkNest own i y "CornerCuts" ∈ xN
def xRM (S : xS) (g : xSig) : Bool := Nat.ble (g.2.2.2.2.frames + 1) S.2.2.2.2.2.1 && Nat.ble (8 + (g.2.2.1 + 11) + g.2.2.2.2.locals) S.2.2.2.2.2.2
theorem xcb_of {S : xS} {g : xSig} {np : Nat} (h : xCG g np) (hr : xRM S g = true) : xcb S g np = true := by
  simp only [xRM, Bool.and_eq_true, Nat.ble_eq] at hr
  simp only [xcb, Bool.and_eq_true, decide_eq_true_eq]
  exact ⟨⟨⟨⟨⟨h.1, h.2.1⟩, h.2.2.1⟩, h.2.2.2⟩, hr.1⟩, hr.2⟩
theorem xlk_of {S : xS} {g : xSig} {i : Nat} (h : xLK S.1 i g.1) : xlk S g i = true := by
  simp only [xlk, Bool.or_eq_true, decide_eq_true_eq]
  exact h
theorem xcV_of {S : xS} {g : xSig} {i np ci : Nat} {r : vw_C} (h : xCG g np) (hi : Cond.instanceMethod g.1 ∈ xG ∧ Cond.selects g.1.cls g.1 g.1 ∈ xG) (hl : xLK S.1 i g.1) (hc : vwCl[ci]? = some r) (hn : r.1 = g.1.cls) (hr : xRM S g = true) : xcV S g i np ci = true := by
  simp only [xcV, Bool.and_eq_true, decide_eq_true_eq, hc]
  exact ⟨⟨⟨⟨xcb_of h hr, xlk_of hl⟩, hi.1⟩, hi.2⟩, hn⟩
theorem xcS_of {S : xS} {g : xSig} {i np : Nat} (h : xCG g np) (hi : Cond.static g.1 ∈ xG) (hl : xLK S.1 i g.1) (hr : xRM S g = true) : xcS S g i np = true := by
  simp only [xcS, Bool.and_eq_true, decide_eq_true_eq]
  exact ⟨⟨xcb_of h hr, xlk_of hl⟩, hi⟩
theorem xcI_of {S : xS} {g : xSig} {i np : Nat} (h : xCG g np) (hi : Cond.instanceMethod g.1 ∈ xG) (hl : xLK S.1 i g.1) (hn : g.1.name = "<init>") (hv : g.2.2.2.1 = none) (hr : xRM S g = true) : xcI S g i np = true := by
  simp only [xcI, Bool.and_eq_true, decide_eq_true_eq]
  exact ⟨⟨⟨⟨xcb_of h hr, xlk_of hl⟩, hi⟩, hn⟩, hv⟩
theorem xfl_of {own : String} {i ci k : Nat} {r : vw_C} (hr : vwCl[ci]? = some r) (hk : k < r.2.2) (h : xflc own i r k ∈ xG ∨ xfnc own i r k ∈ xN) : xfl own i ci k = true := by
  simp only [xfl, hr, Bool.and_eq_true, Bool.or_eq_true, decide_eq_true_eq]
  exact ⟨hk, h⟩
