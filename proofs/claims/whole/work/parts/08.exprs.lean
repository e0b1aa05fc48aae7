/-! expressions out of parts -/
section XE
variable {S : xS}
def pIc (n : Int) : PN S := ⟨(1, 1, fun cc pc _ => ck cc pc (.iconst n) 1, fun _ _ => some (.int (Int32.ofInt n))), by
  intro X C _ pc x hc hx L st k h v hv
  cases hv
  exact ⟨Nat.le_refl _, fun kk => x_iconst C hc (hx _ _ _ _ kk)⟩⟩
def pBi (n : Int) : PN S := ⟨(2, 1, fun cc pc _ => ck cc pc (.bipush n) 2, fun _ _ => some (.int (Int8.ofInt n).toInt32)), by
  intro X C _ pc x hc hx L st k h v hv
  cases hv
  exact ⟨Nat.le_refl _, fun kk => x_bipush C hc (hx _ _ _ _ kk)⟩⟩
def pSi (n : Int) : PN S := ⟨(3, 1, fun cc pc _ => ck cc pc (.sipush n) 3, fun _ _ => some (.int (Int16.ofInt n).toInt32)), by
  intro X C _ pc x hc hx L st k h v hv
  cases hv
  exact ⟨Nat.le_refl _, fun kk => x_sipush C hc (hx _ _ _ _ kk)⟩⟩
def pLdc (i : Nat) (c : Int32) (hi : decide (Cond.constant S.1 i c ∈ xG) = true) : PN S := ⟨(2, 1, fun cc pc _ => ck cc pc (.ldc i) 2, fun _ _ => some (.int c)), by
  intro X C hS pc x hc hx L st k h v hv
  cases hv
  subst hS
  exact ⟨Nat.le_refl _, fun kk => x_ldc C (of_decide_eq_true hi) hc (hx _ _ _ _ kk)⟩⟩
def pLdcw (i : Nat) (c : Int32) (hi : decide (Cond.constant S.1 i c ∈ xG) = true) : PN S := ⟨(3, 1, fun cc pc _ => ck cc pc (.ldc_w i) 3, fun _ _ => some (.int c)), by
  intro X C hS pc x hc hx L st k h v hv
  cases hv
  subst hS
  exact ⟨Nat.le_refl _, fun kk => x_ldcw C (of_decide_eq_true hi) hc (hx _ _ _ _ kk)⟩⟩
def pLd2 (i : Nat) (c : Int64) (hi : decide (Cond.constantLong S.1 i c ∈ xG) = true) : PN S := ⟨(3, 2, fun cc pc _ => ck cc pc (.ldc2_w i) 3, fun _ _ => some (.long c)), by
  intro X C hS pc x hc hx L st k h v hv
  cases hv
  subst hS
  exact ⟨Nat.le_refl _, fun kk => x_ldc2 C (of_decide_eq_true hi) hc (hx _ _ _ _ kk)⟩⟩
def pLc (n : Fin 2) : PN S := ⟨(1, 2, fun cc pc _ => ck cc pc (.lconst n) 1, fun _ _ => some (.long (Int64.ofNat n))), by
  intro X C _ pc x hc hx L st k h v hv
  cases hv
  exact ⟨Nat.le_refl _, fun kk => x_lconst C hc (hx _ _ _ _ kk)⟩⟩
def pNull : PN S := ⟨(1, 1, fun cc pc _ => ck cc pc .aconst_null 1, fun _ _ => some .null), by
  intro X C _ pc x hc hx L st k h v hv
  cases hv
  exact ⟨Nat.le_refl _, fun kk => x_null C hc (hx _ _ _ _ kk)⟩⟩
def fLi (i : Nat) (L : List Value) : Option Value := match L[i]? with
  | some (.int x) => some (.int x)
  | _ => none
def fLl (i : Nat) (L : List Value) : Option Value := match L[i]? with
  | some (.long x) => some (.long x)
  | _ => none
def fLa (i : Nat) (L : List Value) : Option Value := match L[i]? with
  | some (.ref x) => some (.ref x)
  | some .null => some .null
  | some (.retAddr x) => some (.retAddr x)
  | _ => none
theorem fLi_some {i : Nat} {L : List Value} {v : Value} (h : fLi i L = some v) : ∃ x, v = .int x ∧ L[i]? = some (.int x) := by
  unfold fLi at h
  split at h
  · next x hx => cases h; exact ⟨x, rfl, hx⟩
  · cases h
theorem fLl_some {i : Nat} {L : List Value} {v : Value} (h : fLl i L = some v) : ∃ x, v = .long x ∧ L[i]? = some (.long x) := by
  unfold fLl at h
  split at h
  · next x hx => cases h; exact ⟨x, rfl, hx⟩
  · cases h
theorem fLa_some {i : Nat} {L : List Value} {v : Value} (h : fLa i L = some v) : xisr v = true ∧ v.category = 1 ∧ L[i]? = some v := by
  unfold fLa at h
  split at h
  · next x hx => cases h; exact ⟨rfl, rfl, hx⟩
  · next hx => cases h; exact ⟨rfl, rfl, hx⟩
  · next x hx => cases h; exact ⟨rfl, rfl, hx⟩
  · cases h
def pIn (i : Fin 4) : PN S := ⟨(1, 1, fun cc pc _ => ck cc pc (.iload_n i) 1, fun L _ => fLi i.val L), by
  intro X C _ pc x hc hx L st k h v hv
  obtain ⟨z, rfl, hz⟩ := fLi_some hv
  exact ⟨Nat.le_refl _, fun kk => x_iload_n C hz hc (hx _ _ _ _ kk)⟩⟩
def pI (i : Nat) : PN S := ⟨(2, 1, fun cc pc _ => ck cc pc (.iload i) 2, fun L _ => fLi i L), by
  intro X C _ pc x hc hx L st k h v hv
  obtain ⟨z, rfl, hz⟩ := fLi_some hv
  exact ⟨Nat.le_refl _, fun kk => x_iload C hz hc (hx _ _ _ _ kk)⟩⟩
def pLn (i : Fin 4) : PN S := ⟨(1, 2, fun cc pc _ => ck cc pc (.lload_n i) 1, fun L _ => fLl i.val L), by
  intro X C _ pc x hc hx L st k h v hv
  obtain ⟨z, rfl, hz⟩ := fLl_some hv
  exact ⟨Nat.le_refl _, fun kk => x_lload_n C hz hc (hx _ _ _ _ kk)⟩⟩
def pL (i : Nat) : PN S := ⟨(2, 2, fun cc pc _ => ck cc pc (.lload i) 2, fun L _ => fLl i L), by
  intro X C _ pc x hc hx L st k h v hv
  obtain ⟨z, rfl, hz⟩ := fLl_some hv
  exact ⟨Nat.le_refl _, fun kk => x_lload C hz hc (hx _ _ _ _ kk)⟩⟩
def pAn (i : Fin 4) : PN S := ⟨(1, 1, fun cc pc _ => ck cc pc (.aload_n i) 1, fun L _ => fLa i.val L), by
  intro X C _ pc x hc hx L st k h v hv
  obtain ⟨z1, z2, z3⟩ := fLa_some hv
  exact ⟨Nat.le_of_eq z2, fun kk => x_aload_n C z1 z3 hc (hx _ _ _ _ kk)⟩⟩
def pA (i : Nat) : PN S := ⟨(2, 1, fun cc pc _ => ck cc pc (.aload i) 2, fun L _ => fLa i L), by
  intro X C _ pc x hc hx L st k h v hv
  obtain ⟨z1, z2, z3⟩ := fLa_some hv
  exact ⟨Nat.le_of_eq z2, fun kk => x_aload C z1 z3 hc (hx _ _ _ _ kk)⟩⟩
def pU (o : UO S) (a : PN S) : PN S := ⟨(a.1.1 + o.1.2.1, o.1.2.2.1, fun cc pc _ => a.1.2.2.1 cc pc (pc + a.1.1) && ck cc (pc + a.1.1) o.1.1 o.1.2.1, fun L h => (a.1.2.2.2 L h).bind (o.1.2.2.2 h)), by
  intro X C hS pc x hc hx L st k h v hv
  obtain ⟨h1, h2⟩ := xand hc
  obtain ⟨u, hu, hv⟩ := Option.bind_eq_some_iff.mp hv
  have ha := a.2 X C hS pc (pc + a.1.1) h1 xEx.rf L st k h u hu
  have ho := o.2 X C hS (pc + a.1.1) L st k h u v hv h2
  exact ⟨ho.1, fun kk => ha.2 (ho.2 (by rw [Nat.add_assoc]; exact hx _ _ _ _ kk))⟩⟩
def pB (o : BO S) (a b : PN S) : PN S := ⟨(a.1.1 + b.1.1 + o.1.2.1, o.1.2.2.1, fun cc pc _ => a.1.2.2.1 cc pc (pc + a.1.1) && b.1.2.2.1 cc (pc + a.1.1) (pc + a.1.1 + b.1.1) && ck cc (pc + a.1.1 + b.1.1) o.1.1 o.1.2.1, fun L h => (a.1.2.2.2 L h).bind (fun u => (b.1.2.2.2 L h).bind (o.1.2.2.2 h u))), by
  intro X C hS pc x hc hx L st k h v hv
  obtain ⟨h12, h3⟩ := xand hc
  obtain ⟨h1, h2⟩ := xand h12
  obtain ⟨u, hu, hv⟩ := Option.bind_eq_some_iff.mp hv
  obtain ⟨t, ht, hv⟩ := Option.bind_eq_some_iff.mp hv
  have ha := a.2 X C hS pc (pc + a.1.1) h1 xEx.rf L st k h u hu
  have hb := b.2 X C hS (pc + a.1.1) (pc + a.1.1 + b.1.1) h2 xEx.rf L (u :: st) k h t ht
  have ho := o.2 X C hS (pc + a.1.1 + b.1.1) L st k h u t v hv h3
  refine ⟨ho.1, fun kk => ha.2 (hb.2 (ho.2 ?_))⟩
  have e : pc + (a.1.1 + b.1.1 + o.1.2.1) = pc + a.1.1 + b.1.1 + o.1.2.1 := by omega
  rw [← e]
  exact hx _ _ _ _ kk⟩
/-! conditions -/
def xng (c : ClassFile.Cond) : ClassFile.Cond := match c with
  | .eq => .ne
  | .ne => .eq
  | .lt => .ge
  | .ge => .lt
  | .gt => .le
  | .le => .gt
theorem xng_cm (c : ClassFile.Cond) (a b : Int32) : xcm (xng c) a b = !xcm c a b := by
  cases c <;> simp [xng, xcm, Int32.not_le, Int32.not_lt] 
  all_goals (by_cases h : a < b <;> by_cases h' : b < a <;> simp_all [Int32.not_lt, Int32.not_le, Int32.le_iff_toInt_le, Int32.lt_iff_toInt_lt] <;> omega)
def xsel (b : Bool) (c : ClassFile.Cond) : ClassFile.Cond := if b = true then c else xng c
theorem xsel_cm {b : Bool} {c : ClassFile.Cond} {x y : Int32} {r : Bool} (h : xcm (xsel b c) x y = r) : (xcm c x y = b) ↔ r = true := by
  cases b
  · simp only [xsel, Bool.false_eq_true, if_false, xng_cm] at h
    rw [← h]; simp
  · simp only [xsel, if_true] at h
    rw [← h]
def fIf (c : ClassFile.Cond) (v : Value) : Option Bool := match v with
  | .int x => some (xcm c x 0)
  | _ => none
def fCm (c : ClassFile.Cond) (u v : Value) : Option Bool := match u, v with
  | .int x, .int y => some (xcm c x y)
  | _, _ => none
def cIf (c : ClassFile.Cond) (a : PN S) : CN S := ⟨(a.1.1 + 3, fun b cc pc tgt _ => a.1.2.2.1 cc pc (pc + a.1.1) && ck cc (pc + a.1.1) (.ifCond (xsel b c) ((tgt : Int) - ((pc + a.1.1 : Nat) : Int))) 3, fun L h => (a.1.2.2.2 L h).bind (fIf c)), by
  intro X C hS b pc tgt x hc hx L st k h v hv kt kf
  obtain ⟨h1, h2⟩ := xand hc
  obtain ⟨u, hu, hv⟩ := Option.bind_eq_some_iff.mp hv
  cases u <;> simp [fIf] at hv
  next y =>
  refine (a.2 X C hS pc (pc + a.1.1) h1 xEx.rf L st k h _ hu).2 (x_if C h2 (fun z => kt ?_) (fun z => ?_))
  · rw [← hv]; exact (xsel_cm z).mpr rfl
  · rw [Nat.add_assoc]
    exact hx _ _ _ _ (kf (fun q => by rw [← hv] at q; exact absurd ((xsel_cm z).mp q) (by decide)))⟩
def cCm (c : ClassFile.Cond) (a e : PN S) : CN S := ⟨(a.1.1 + e.1.1 + 3, fun b cc pc tgt _ => a.1.2.2.1 cc pc (pc + a.1.1) && e.1.2.2.1 cc (pc + a.1.1) (pc + a.1.1 + e.1.1) && ck cc (pc + a.1.1 + e.1.1) (.if_icmp (xsel b c) ((tgt : Int) - ((pc + a.1.1 + e.1.1 : Nat) : Int))) 3, fun L h => (a.1.2.2.2 L h).bind (fun u => (e.1.2.2.2 L h).bind (fCm c u))), by
  intro X C hS b pc tgt x hc hx L st k h v hv kt kf
  obtain ⟨h12, h3⟩ := xand hc
  obtain ⟨h1, h2⟩ := xand h12
  obtain ⟨u, hu, hv⟩ := Option.bind_eq_some_iff.mp hv
  obtain ⟨t, ht, hv⟩ := Option.bind_eq_some_iff.mp hv
  cases u <;> cases t <;> simp [fCm] at hv
  next y y2 =>
  refine (a.2 X C hS pc (pc + a.1.1) h1 xEx.rf L st k h _ hu).2 ((e.2 X C hS (pc + a.1.1) (pc + a.1.1 + e.1.1) h2 xEx.rf L _ k h _ ht).2 (x_icmp C h3 (fun z => kt ?_) (fun z => ?_)))
  · rw [← hv]; exact (xsel_cm z).mpr rfl
  · have e9 : pc + (a.1.1 + e.1.1 + 3) = pc + a.1.1 + e.1.1 + 3 := by omega
    rw [← e9]
    exact hx _ _ _ _ (kf (fun q => by rw [← hv] at q; exact absurd ((xsel_cm z).mp q) (by decide)))⟩
def fNl (v : Value) : Option Bool := if xisr v = true then some (!xnz v) else none
/-- x == null -/
def cNl (a : PN S) : CN S := ⟨(a.1.1 + 3, fun b cc pc tgt _ => a.1.2.2.1 cc pc (pc + a.1.1) && ck cc (pc + a.1.1) (if b = true then .ifnull ((tgt : Int) - ((pc + a.1.1 : Nat) : Int)) else .ifnonnull ((tgt : Int) - ((pc + a.1.1 : Nat) : Int))) 3, fun L h => (a.1.2.2.2 L h).bind fNl), by
  intro X C hS b pc tgt x hc hx L st k h v hv kt kf
  obtain ⟨h1, h2⟩ := xand hc
  obtain ⟨u, hu, hv⟩ := Option.bind_eq_some_iff.mp hv
  simp only [fNl] at hv
  split at hv
  · next hr =>
    cases hv
    refine (a.2 X C hS pc (pc + a.1.1) h1 xEx.rf L st k h _ hu).2 ?_
    cases b
    · exact x_ifnonnull C hr h2 (fun z => kt (by rw [z]; rfl)) (fun z => by rw [Nat.add_assoc]; exact hx _ _ _ _ (kf (by rw [z]; decide)))
    · exact x_ifnull C hr h2 (fun z => kt (by rw [z]; rfl)) (fun z => by rw [Nat.add_assoc]; exact hx _ _ _ _ (kf (by rw [z]; decide)))
  · cases hv⟩
def cNot (a : CN S) : CN S := ⟨(a.1.1, fun b cc pc tgt x => a.1.2.1 (!b) cc pc tgt x, fun L h => (a.1.2.2 L h).map (fun v => !v)), by
  intro X C hS b pc tgt x hc hx L st k h v hv kt kf
  obtain ⟨u, hu, rfl⟩ := Option.map_eq_some_iff.mp hv
  exact a.2 X C hS (!b) pc tgt x hc hx L st k h u hu (fun z => kt (by rw [z]; simp)) (fun z => kf (fun q => z (by rw [← q]; simp)))⟩
def cAnd (a e : CN S) : CN S := ⟨(a.1.1 + e.1.1, fun b cc pc tgt x => (if b = true then a.1.2.1 false cc pc x (pc + a.1.1) else a.1.2.1 false cc pc tgt (pc + a.1.1)) && e.1.2.1 b cc (pc + a.1.1) tgt x, fun L h => (a.1.2.2 L h).bind (fun u => if u = true then e.1.2.2 L h else some false)), by
  intro X C hS b pc tgt x hc hx L st k h v hv kt kf
  obtain ⟨h1, h2⟩ := xand hc
  obtain ⟨u, hu, hv⟩ := Option.bind_eq_some_iff.mp hv
  have hx2 : xEx X x (pc + a.1.1 + e.1.1) := by rw [Nat.add_assoc]; exact hx
  cases b
  · refine a.2 X C hS false pc tgt (pc + a.1.1) h1 xEx.rf L st k h u hu (fun z => ?_) (fun z => ?_)
    · subst z; cases hv; exact kt rfl
    · have hu1 : u = true := by simpa using z
      subst hu1
      exact e.2 X C hS false (pc + a.1.1) tgt x h2 hx2 L st k h v hv kt kf
  · refine a.2 X C hS false pc x (pc + a.1.1) h1 xEx.rf L st k h u hu (fun z => ?_) (fun z => ?_)
    · subst z; cases hv; exact kf (by decide)
    · have hu1 : u = true := by simpa using z
      subst hu1
      exact e.2 X C hS true (pc + a.1.1) tgt x h2 hx2 L st k h v hv kt kf⟩
def cOr (a e : CN S) : CN S := ⟨(a.1.1 + e.1.1, fun b cc pc tgt x => (if b = true then a.1.2.1 true cc pc tgt (pc + a.1.1) else a.1.2.1 true cc pc x (pc + a.1.1)) && e.1.2.1 b cc (pc + a.1.1) tgt x, fun L h => (a.1.2.2 L h).bind (fun u => if u = true then some true else e.1.2.2 L h)), by
  intro X C hS b pc tgt x hc hx L st k h v hv kt kf
  obtain ⟨h1, h2⟩ := xand hc
  obtain ⟨u, hu, hv⟩ := Option.bind_eq_some_iff.mp hv
  have hx2 : xEx X x (pc + a.1.1 + e.1.1) := by rw [Nat.add_assoc]; exact hx
  cases b
  · refine a.2 X C hS true pc x (pc + a.1.1) h1 xEx.rf L st k h u hu (fun z => ?_) (fun z => ?_)
    · subst z; cases hv; exact kf (by decide)
    · have hu1 : u = false := by simpa using z
      subst hu1
      exact e.2 X C hS false (pc + a.1.1) tgt x h2 hx2 L st k h v hv kt kf
  · refine a.2 X C hS true pc tgt (pc + a.1.1) h1 xEx.rf L st k h u hu (fun z => ?_) (fun z => ?_)
    · subst z; cases hv; exact kt rfl
    · have hu1 : u = false := by simpa using z
      subst hu1
      exact e.2 X C hS true (pc + a.1.1) tgt x h2 hx2 L st k h v hv kt kf⟩
/-- a condition as a value: 1 or 0 -/
def xbv (b : Bool) : Value := .int (if b = true then 1 else 0)
def pBv (a : CN S) : PN S := ⟨(a.1.1 + 5, 1, fun cc pc x => a.1.2.1 false cc pc (pc + a.1.1 + 4) (pc + a.1.1) && ck cc (pc + a.1.1) (.iconst 1) 1 && ck cc (pc + a.1.1 + 1) (.goto ((x : Int) - ((pc + a.1.1 + 1 : Nat) : Int))) 3 && ck cc (pc + a.1.1 + 4) (.iconst 0) 1, fun L h => (a.1.2.2 L h).map xbv), by
  intro X C hS pc x hc hx L st k h v hv
  obtain ⟨h123, h4⟩ := xand hc
  obtain ⟨h12, h3⟩ := xand h123
  obtain ⟨h1, h2⟩ := xand h12
  obtain ⟨u, hu, rfl⟩ := Option.map_eq_some_iff.mp hv
  refine ⟨Nat.le_refl _, fun kk => a.2 X C hS false pc _ _ h1 xEx.rf L st k h u hu (fun z => ?_) (fun z => ?_)⟩
  · subst z
    refine x_iconst C h4 ?_
    have e : pc + a.1.1 + 4 + 1 = pc + (a.1.1 + 5) := by omega
    rw [e]
    exact hx _ _ _ _ kk
  · have hu1 : u = true := by simpa using z
    subst hu1
    exact x_iconst C h2 (x_goto C h3 kk)⟩
def pTn (c : CN S) (a e : PN S) : PN S := ⟨(c.1.1 + a.1.1 + 3 + e.1.1, max a.1.2.1 e.1.2.1, fun cc pc x => c.1.2.1 false cc pc (pc + c.1.1 + a.1.1 + 3) (pc + c.1.1) && a.1.2.2.1 cc (pc + c.1.1) x && ck cc (pc + c.1.1 + a.1.1) (.goto ((x : Int) - ((pc + c.1.1 + a.1.1 : Nat) : Int))) 3 && e.1.2.2.1 cc (pc + c.1.1 + a.1.1 + 3) x, fun L h => (c.1.2.2 L h).bind (fun u => if u = true then a.1.2.2.2 L h else e.1.2.2.2 L h)), by
  intro X C hS pc x hc hx L st k h v hv
  obtain ⟨h123, h4⟩ := xand hc
  obtain ⟨h12, h3⟩ := xand h123
  obtain ⟨h1, h2⟩ := xand h12
  obtain ⟨u, hu, hv⟩ := Option.bind_eq_some_iff.mp hv
  cases u
  · have e9 : pc + c.1.1 + a.1.1 + 3 + e.1.1 = pc + (c.1.1 + a.1.1 + 3 + e.1.1) := by omega
    have he := e.2 X C hS (pc + c.1.1 + a.1.1 + 3) x h4 (by rw [e9]; exact hx) L st k h v hv
    exact ⟨Nat.le_trans he.1 (Nat.le_max_right _ _), fun kk => c.2 X C hS false pc _ _ h1 xEx.rf L st k h _ hu (fun _ => he.2 kk) (fun z => absurd rfl z)⟩
  · have ha := a.2 X C hS (pc + c.1.1) x h2 (fun L st k h kk => x_goto C h3 kk) L st k h v hv
    exact ⟨Nat.le_trans ha.1 (Nat.le_max_left _ _), fun kk => c.2 X C hS false pc _ _ h1 xEx.rf L st k h _ hu (fun z => by cases z) (fun _ => ha.2 kk)⟩⟩
/-! expressions that call. The same out of parts; a pure one is one -/
def eP (a : PN S) : EN S := ⟨(a.1.1, a.1.2.1, 0, a.1.2.2.1, fun L k h Q => ∃ v, a.1.2.2.2 L h = some v ∧ Q v k h), by
  intro X C hS pc x hc hx L st k h Q hd hs kk
  obtain ⟨v, hv, hq⟩ := hs
  have ha := a.2 X C hS pc x hc hx L st k h v hv
  exact ha.2 (kk v k h ha.1 hq)⟩
def eU (o : UO S) (a : EN S) : EN S := ⟨(a.1.1 + o.1.2.1, o.1.2.2.1, a.1.2.2.1, fun cc pc _ => a.1.2.2.2.1 cc pc (pc + a.1.1) && ck cc (pc + a.1.1) o.1.1 o.1.2.1, fun L k h Q => a.1.2.2.2.2 L k h (fun u k' h' => ∃ v, o.1.2.2.2 h' u = some v ∧ Q v k' h')), by
  intro X C hS pc x hc hx L st k h Q hd hs kk
  obtain ⟨h1, h2⟩ := xand hc
  refine a.2 X C hS pc (pc + a.1.1) h1 xEx.rf L st k h _ hd hs (fun u k' h' hu hq => ?_)
  obtain ⟨v, hv, hq⟩ := hq
  have ho := o.2 X C hS (pc + a.1.1) L st k' h' u v hv h2
  exact ho.2 (by rw [Nat.add_assoc]; exact hx _ _ _ _ (kk v k' h' ho.1 hq))⟩
theorem xcat_cons (v : Value) (st : List Value) : xcat (v :: st) = v.category + xcat st := by simp [xcat]
def eB (o : BO S) (a b : EN S) : EN S := ⟨(a.1.1 + b.1.1 + o.1.2.1, o.1.2.2.1, max a.1.2.2.1 (a.1.2.1 + b.1.2.2.1), fun cc pc _ => a.1.2.2.2.1 cc pc (pc + a.1.1) && b.1.2.2.2.1 cc (pc + a.1.1) (pc + a.1.1 + b.1.1) && ck cc (pc + a.1.1 + b.1.1) o.1.1 o.1.2.1, fun L k h Q => a.1.2.2.2.2 L k h (fun u k' h' => b.1.2.2.2.2 L k' h' (fun t k2 h2 => ∃ v, o.1.2.2.2 h2 u t = some v ∧ Q v k2 h2))), by
  intro X C hS pc x hc hx L st k h Q hd hs kk
  obtain ⟨h12, h3⟩ := xand hc
  obtain ⟨h1, h2⟩ := xand h12
  have hd : xcat st + max a.1.2.2.1 (a.1.2.1 + b.1.2.2.1) ≤ 8 := hd
  refine a.2 X C hS pc (pc + a.1.1) h1 xEx.rf L st k h _ (by omega) hs (fun u k' h' hu hq => ?_)
  refine b.2 X C hS (pc + a.1.1) (pc + a.1.1 + b.1.1) h2 xEx.rf L (u :: st) k' h' _ (by rw [xcat_cons]; omega) hq (fun t k2 h2' ht hq => ?_)
  obtain ⟨v, hv, hq⟩ := hq
  have ho := o.2 X C hS (pc + a.1.1 + b.1.1) L st k2 h2' u t v hv h3
  have e : pc + (a.1.1 + b.1.1 + o.1.2.1) = pc + a.1.1 + b.1.1 + o.1.2.1 := by omega
  exact ho.2 (by rw [← e]; exact hx _ _ _ _ (kk v k2 h2' ho.1 hq))⟩
def dC (a : CN S) : DN S := ⟨(a.1.1, 0, a.1.2.1, fun L k h Q => ∃ v, a.1.2.2 L h = some v ∧ Q v k h), by
  intro X C hS b pc tgt x hc hx L st k h Q hd hs kt kf
  obtain ⟨v, hv, hq⟩ := hs
  exact a.2 X C hS b pc tgt x hc hx L st k h v hv (kt v k h hq) (kf v k h hq)⟩
def dIf (c : ClassFile.Cond) (a : EN S) : DN S := ⟨(a.1.1 + 3, a.1.2.2.1, fun b cc pc tgt _ => a.1.2.2.2.1 cc pc (pc + a.1.1) && ck cc (pc + a.1.1) (.ifCond (xsel b c) ((tgt : Int) - ((pc + a.1.1 : Nat) : Int))) 3, fun L k h Q => a.1.2.2.2.2 L k h (fun u k' h' => ∃ v, fIf c u = some v ∧ Q v k' h')), by
  intro X C hS b pc tgt x hc hx L st k h Q hd hs kt kf
  obtain ⟨h1, h2⟩ := xand hc
  refine a.2 X C hS pc (pc + a.1.1) h1 xEx.rf L st k h _ hd hs (fun u k' h' hu hq => ?_)
  obtain ⟨v, hv, hq⟩ := hq
  cases u <;> simp [fIf] at hv
  next y =>
  refine x_if C h2 (fun z => kt v k' h' hq ?_) (fun z => ?_)
  · rw [← hv]; exact (xsel_cm z).mpr rfl
  · rw [Nat.add_assoc]
    exact hx _ _ _ _ (kf v k' h' hq (fun q => by rw [← hv] at q; exact absurd ((xsel_cm z).mp q) (by decide)))⟩
def dCm (c : ClassFile.Cond) (a e : EN S) : DN S := ⟨(a.1.1 + e.1.1 + 3, max a.1.2.2.1 (a.1.2.1 + e.1.2.2.1), fun b cc pc tgt _ => a.1.2.2.2.1 cc pc (pc + a.1.1) && e.1.2.2.2.1 cc (pc + a.1.1) (pc + a.1.1 + e.1.1) && ck cc (pc + a.1.1 + e.1.1) (.if_icmp (xsel b c) ((tgt : Int) - ((pc + a.1.1 + e.1.1 : Nat) : Int))) 3, fun L k h Q => a.1.2.2.2.2 L k h (fun u k' h' => e.1.2.2.2.2 L k' h' (fun t k2 h2 => ∃ v, fCm c u t = some v ∧ Q v k2 h2))), by
  intro X C hS b pc tgt x hc hx L st k h Q hd hs kt kf
  obtain ⟨h12, h3⟩ := xand hc
  obtain ⟨h1, h2⟩ := xand h12
  have hd : xcat st + max a.1.2.2.1 (a.1.2.1 + e.1.2.2.1) ≤ 8 := hd
  refine a.2 X C hS pc (pc + a.1.1) h1 xEx.rf L st k h _ (by omega) hs (fun u k' h' hu hq => ?_)
  refine e.2 X C hS (pc + a.1.1) (pc + a.1.1 + e.1.1) h2 xEx.rf L (u :: st) k' h' _ (by rw [xcat_cons]; omega) hq (fun t k2 h2' ht hr => ?_)
  obtain ⟨v, hv, hr⟩ := hr
  cases u <;> cases t <;> simp [fCm] at hv
  refine x_icmp C h3 (fun z => kt v k2 h2' hr ?_) (fun z => ?_)
  · rw [← hv]; exact (xsel_cm z).mpr rfl
  · have e9 : pc + (a.1.1 + e.1.1 + 3) = pc + a.1.1 + e.1.1 + 3 := by omega
    rw [← e9]
    exact hx _ _ _ _ (kf v k2 h2' hr (fun q => by rw [← hv] at q; exact absurd ((xsel_cm z).mp q) (by decide)))⟩
def dNot (a : DN S) : DN S := ⟨(a.1.1, a.1.2.1, fun b cc pc tgt x => a.1.2.2.1 (!b) cc pc tgt x, fun L k h Q => a.1.2.2.2 L k h (fun v k' h' => Q (!v) k' h')), by
  intro X C hS b pc tgt x hc hx L st k h Q hd hs kt kf
  exact a.2 X C hS (!b) pc tgt x hc hx L st k h _ hd hs (fun v k' h' hq z => kt _ k' h' hq (by rw [z]; simp)) (fun v k' h' hq z => kf _ k' h' hq (fun q => z (by rw [← q]; simp)))⟩
def dAnd (a e : DN S) : DN S := ⟨(a.1.1 + e.1.1, max a.1.2.1 e.1.2.1, fun b cc pc tgt x => (if b = true then a.1.2.2.1 false cc pc x (pc + a.1.1) else a.1.2.2.1 false cc pc tgt (pc + a.1.1)) && e.1.2.2.1 b cc (pc + a.1.1) tgt x, fun L k h Q => a.1.2.2.2 L k h (fun u k' h' => if u = true then e.1.2.2.2 L k' h' Q else Q false k' h')), by
  intro X C hS b pc tgt x hc hx L st k h Q hd hs kt kf
  obtain ⟨h1, h2⟩ := xand hc
  have hx2 : xEx X x (pc + a.1.1 + e.1.1) := by rw [Nat.add_assoc]; exact hx
  have hd : xcat st + max a.1.2.1 e.1.2.1 ≤ 8 := hd
  cases b
  · refine a.2 X C hS false pc tgt (pc + a.1.1) h1 xEx.rf L st k h _ (by omega) hs (fun u k' h' hq z => ?_) (fun u k' h' hq z => ?_)
    · subst z; exact kt _ _ _ hq rfl
    · have hu1 : u = true := by simpa using z
      subst hu1
      exact e.2 X C hS false (pc + a.1.1) tgt x h2 hx2 L st k' h' Q (by omega) hq kt kf
  · refine a.2 X C hS false pc x (pc + a.1.1) h1 xEx.rf L st k h _ (by omega) hs (fun u k' h' hq z => ?_) (fun u k' h' hq z => ?_)
    · subst z; exact kf _ _ _ hq (by decide)
    · have hu1 : u = true := by simpa using z
      subst hu1
      exact e.2 X C hS true (pc + a.1.1) tgt x h2 hx2 L st k' h' Q (by omega) hq kt kf⟩
def dOr (a e : DN S) : DN S := ⟨(a.1.1 + e.1.1, max a.1.2.1 e.1.2.1, fun b cc pc tgt x => (if b = true then a.1.2.2.1 true cc pc tgt (pc + a.1.1) else a.1.2.2.1 true cc pc x (pc + a.1.1)) && e.1.2.2.1 b cc (pc + a.1.1) tgt x, fun L k h Q => a.1.2.2.2 L k h (fun u k' h' => if u = true then Q true k' h' else e.1.2.2.2 L k' h' Q)), by
  intro X C hS b pc tgt x hc hx L st k h Q hd hs kt kf
  obtain ⟨h1, h2⟩ := xand hc
  have hx2 : xEx X x (pc + a.1.1 + e.1.1) := by rw [Nat.add_assoc]; exact hx
  have hd : xcat st + max a.1.2.1 e.1.2.1 ≤ 8 := hd
  cases b
  · refine a.2 X C hS true pc x (pc + a.1.1) h1 xEx.rf L st k h _ (by omega) hs (fun u k' h' hq z => ?_) (fun u k' h' hq z => ?_)
    · subst z; exact kf _ _ _ hq (by decide)
    · have hu1 : u = false := by simpa using z
      subst hu1
      exact e.2 X C hS false (pc + a.1.1) tgt x h2 hx2 L st k' h' Q (by omega) hq kt kf
  · refine a.2 X C hS true pc tgt (pc + a.1.1) h1 xEx.rf L st k h _ (by omega) hs (fun u k' h' hq z => ?_) (fun u k' h' hq z => ?_)
    · subst z; exact kt _ _ _ hq rfl
    · have hu1 : u = false := by simpa using z
      subst hu1
      exact e.2 X C hS true (pc + a.1.1) tgt x h2 hx2 L st k' h' Q (by omega) hq kt kf⟩
def eBv (a : DN S) : EN S := ⟨(a.1.1 + 5, 1, a.1.2.1, fun cc pc x => a.1.2.2.1 false cc pc (pc + a.1.1 + 4) (pc + a.1.1) && ck cc (pc + a.1.1) (.iconst 1) 1 && ck cc (pc + a.1.1 + 1) (.goto ((x : Int) - ((pc + a.1.1 + 1 : Nat) : Int))) 3 && ck cc (pc + a.1.1 + 4) (.iconst 0) 1, fun L k h Q => a.1.2.2.2 L k h (fun u k' h' => Q (xbv u) k' h')), by
  intro X C hS pc x hc hx L st k h Q hd hs kk
  obtain ⟨h123, h4⟩ := xand hc
  obtain ⟨h12, h3⟩ := xand h123
  obtain ⟨h1, h2⟩ := xand h12
  refine a.2 X C hS false pc _ _ h1 xEx.rf L st k h _ hd hs (fun u k' h' hq z => ?_) (fun u k' h' hq z => ?_)
  · subst z
    refine x_iconst C h4 ?_
    have e : pc + a.1.1 + 4 + 1 = pc + (a.1.1 + 5) := by omega
    rw [e]
    exact hx _ _ _ _ (kk _ _ _ (Nat.le_refl _) hq)
  · have hu1 : u = true := by simpa using z
    subst hu1
    exact x_iconst C h2 (x_goto C h3 (kk _ _ _ (Nat.le_refl _) hq))⟩
def eTn (c : DN S) (a e : EN S) : EN S := ⟨(c.1.1 + a.1.1 + 3 + e.1.1, max a.1.2.1 e.1.2.1, max c.1.2.1 (max a.1.2.2.1 e.1.2.2.1), fun cc pc x => c.1.2.2.1 false cc pc (pc + c.1.1 + a.1.1 + 3) (pc + c.1.1) && a.1.2.2.2.1 cc (pc + c.1.1) x && ck cc (pc + c.1.1 + a.1.1) (.goto ((x : Int) - ((pc + c.1.1 + a.1.1 : Nat) : Int))) 3 && e.1.2.2.2.1 cc (pc + c.1.1 + a.1.1 + 3) x, fun L k h Q => c.1.2.2.2 L k h (fun u k' h' => if u = true then a.1.2.2.2.2 L k' h' Q else e.1.2.2.2.2 L k' h' Q)), by
  intro X C hS pc x hc hx L st k h Q hd hs kk
  obtain ⟨h123, h4⟩ := xand hc
  obtain ⟨h12, h3⟩ := xand h123
  obtain ⟨h1, h2⟩ := xand h12
  have hd : xcat st + max c.1.2.1 (max a.1.2.2.1 e.1.2.2.1) ≤ 8 := hd
  refine c.2 X C hS false pc _ _ h1 xEx.rf L st k h _ (by omega) hs (fun u k' h' hq z => ?_) (fun u k' h' hq z => ?_)
  · subst z
    have e9 : pc + c.1.1 + a.1.1 + 3 + e.1.1 = pc + (c.1.1 + a.1.1 + 3 + e.1.1) := by omega
    exact e.2 X C hS (pc + c.1.1 + a.1.1 + 3) x h4 (by rw [e9]; exact hx) L st k' h' Q (by omega) hq (fun v k2 h2 hv hq => kk v k2 h2 (Nat.le_trans hv (Nat.le_max_right _ _)) hq)
  · have hu1 : u = true := by simpa using z
    subst hu1
    exact a.2 X C hS (pc + c.1.1) x h2 (fun L st k h kk => x_goto C h3 kk) L st k' h' Q (by omega) hq (fun v k2 h2 hv hq => kk v k2 h2 (Nat.le_trans hv (Nat.le_max_left _ _)) hq)⟩
end XE
