/-! evaluating: entry, locals, ints by naturals, counting loops -/
theorem xM_in {g : xSig} {b : SN (g.1.cls, (g.1.name, none), g.2.2.2.1, g.2.2.2.2.cells, g.2.2.2.2.slots, g.2.2.2.2.frames, g.2.2.2.2.locals)} {vs : List Value} {h : AH} {Rt : Option Value → AH → Prop} (L0 : List Value) (hl : (xent vs).length ≤ g.2.2.1) (hL : xen vs g.2.2.1 = L0) (hb : b.1.2.2 L0 (0, 0) h (fun _ _ _ => False) (fun _ _ _ => False) (fun _ _ _ => False) (fun r h' => Rt r h' ∧ xrv g.2.2.2.1 r)) : xM g b vs h Rt := ⟨hl, by rw [hL]; exact hb⟩
theorem li0 (x : Int32) (L : List Value) : fLi 0 (.int x :: L) = some (.int x) := rfl
theorem lis (i : Nat) (v : Value) (L : List Value) : fLi (i + 1) (v :: L) = fLi i L := rfl
theorem ll0 (x : Int64) (L : List Value) : fLl 0 (.long x :: L) = some (.long x) := rfl
theorem lls (i : Nat) (v : Value) (L : List Value) : fLl (i + 1) (v :: L) = fLl i L := rfl
theorem la0 (x : Nat) (L : List Value) : fLa 0 (.ref x :: L) = some (.ref x) := rfl
theorem la0n (L : List Value) : fLa 0 (.null :: L) = some .null := rfl
theorem la0r (x : Nat) (L : List Value) : fLa 0 (.retAddr x :: L) = some (.retAddr x) := rfl
theorem las (i : Nat) (v : Value) (L : List Value) : fLa (i + 1) (v :: L) = fLa i L := rfl
theorem xs1_0 (a v : Value) (L : List Value) : xs1 (a :: L) 0 v = v :: L := rfl
theorem xs1_1 (u a v : Value) (L : List Value) : xs1 (u :: a :: L) 1 v = (if xisl (some u) = true then xjk else u) :: v :: L := by
  simp only [xs1, List.getElem?_cons_zero]; split <;> rfl
theorem xs1_s (u v : Value) (L : List Value) (j : Nat) : xs1 (u :: L) (j + 2) v = u :: xs1 L (j + 1) v := by
  simp only [xs1, List.getElem?_cons_succ]; split <;> rfl
theorem xs2_0 (a b v : Value) (L : List Value) : xs2 (a :: b :: L) 0 v = v :: xjk :: L := rfl
theorem xs2_1 (u a b v : Value) (L : List Value) : xs2 (u :: a :: b :: L) 1 v = (if xisl (some u) = true then xjk else u) :: v :: xjk :: L := by
  simp only [xs2, xs1_1]; rfl
theorem xs2_s (u v : Value) (L : List Value) (j : Nat) : xs2 (u :: L) (j + 2) v = u :: xs2 L (j + 1) v := by
  simp only [xs2, xs1_s]; rfl
theorem xisl_i (x : Int32) : xisl (some (.int x)) = false := rfl
theorem xisl_r (x : Nat) : xisl (some (.ref x)) = false := rfl
theorem xisl_n : xisl (some .null) = false := rfl
theorem xisl_a (x : Nat) : xisl (some (.retAddr x)) = false := rfl
theorem xisl_j : xisl (some xjk) = false := rfl
theorem xisl_l (x : Int64) : xisl (some (.long x)) = true := rfl
theorem si_0 (a : Value) (L : List Value) (x : Int32) : fSi 0 (a :: L) (.int x) = some (.int x :: L) := rfl
theorem si_1 (u a : Value) (L : List Value) (x : Int32) : fSi 1 (u :: a :: L) (.int x) = some ((if xisl (some u) = true then xjk else u) :: .int x :: L) := by simp [fSi, xs1_1]
theorem si_s (u : Value) (L : List Value) (j : Nat) (x : Int32) : fSi (j + 2) (u :: L) (.int x) = (fSi (j + 1) L (.int x)).map (fun L' => u :: L') := by
  by_cases h : j + 1 < L.length
  · simp [fSi, xs1_s, h]
  · simp [fSi, xs1_s, h, Nat.not_lt.mp h]
theorem sl_0 (a b : Value) (L : List Value) (x : Int64) : fSl 0 (a :: b :: L) (.long x) = some (.long x :: xjk :: L) := rfl
theorem sl_1 (u a b : Value) (L : List Value) (x : Int64) : fSl 1 (u :: a :: b :: L) (.long x) = some ((if xisl (some u) = true then xjk else u) :: .long x :: xjk :: L) := by simp [fSl, xs2_1]
theorem sl_s (u : Value) (L : List Value) (j : Nat) (x : Int64) : fSl (j + 2) (u :: L) (.long x) = (fSl (j + 1) L (.long x)).map (fun L' => u :: L') := by
  by_cases h : j + 1 + 1 < L.length <;> simp [fSl, xs2_s, h]
theorem sa_0 (a v : Value) (L : List Value) (hv : xisr v = true) : fSa 0 (a :: L) v = some (v :: L) := by simp [fSa, hv, xs1_0]
theorem sa_1 (u a v : Value) (L : List Value) (hv : xisr v = true) : fSa 1 (u :: a :: L) v = some ((if xisl (some u) = true then xjk else u) :: v :: L) := by simp [fSa, hv, xs1_1]
theorem sa_s (u v : Value) (L : List Value) (j : Nat) : fSa (j + 2) (u :: L) v = (fSa (j + 1) L v).map (fun L' => u :: L') := by
  by_cases h : j + 1 < L.length <;> by_cases h2 : xisr v = true <;> simp [fSa, xs1_s, h, h2] <;> omega
theorem isr_r (x : Nat) : xisr (.ref x) = true := rfl
theorem isr_n : xisr .null = true := rfl
theorem isr_a (x : Nat) : xisr (.retAddr x) = true := rfl
theorem inc_ (i : Nat) (n : Int) (L : List Value) : fInc i n L = (fLi i L).bind (fun v => match v with | .int x => some (xs1 L i (.int (x + Int32.ofInt n))) | _ => none) := by
  simp only [fInc, fLi]; split <;> simp_all
theorem ii_ (f : Int32 → Int32 → Int32) (h : AH) (x y : Int32) : fII f h (.int x) (.int y) = some (.int (f x y)) := rfl
theorem iz_ (f : Int32 → Int32 → Int32) (h : AH) (x y : Int32) (hy : ¬ y = 0) : fIIz f h (.int x) (.int y) = some (.int (f x y)) := if_neg hy
theorem ll_ (f : Int64 → Int64 → Int64) (h : AH) (x y : Int64) : fLL f h (.long x) (.long y) = some (.long (f x y)) := rfl
theorem lz_ (f : Int64 → Int64 → Int64) (h : AH) (x y : Int64) (hy : ¬ y = 0) : fLLz f h (.long x) (.long y) = some (.long (f x y)) := if_neg hy
theorem lsh_ (f : Int64 → Int32 → Int64) (h : AH) (x : Int64) (y : Int32) : fLI f h (.long x) (.int y) = some (.long (f x y)) := rfl
theorem lc_ (h : AH) (x y : Int64) : fCmpL h (.long x) (.long y) = some (.int (lg_cmp x y)) := rfl
theorem i2l_ (h : AH) (x : Int32) : fI2l h (.int x) = some (.long x.toInt64) := rfl
theorem l2i_ (h : AH) (x : Int64) : fL2i h (.long x) = some (.int x.toInt32) := rfl
theorem neg_ (h : AH) (x : Int32) : fNeg h (.int x) = some (.int (-x)) := rfl
theorem negl_ (h : AH) (x : Int64) : fNegL h (.long x) = some (.long (-x)) := rfl
theorem if_ (c : ClassFile.Cond) (x : Int32) : fIf c (.int x) = some (xcm c x 0) := rfl
theorem cm_ (c : ClassFile.Cond) (x y : Int32) : fCm c (.int x) (.int y) = some (xcm c x y) := rfl
theorem nl_r (x : Nat) : fNl (.ref x) = some false := rfl
theorem nl_n : fNl .null = some true := rfl
theorem rI_i (x : Int32) : xrI (some (.int x)) = .ireturn := rfl
theorem rI_l (x : Int64) : xrI (some (.long x)) = .lreturn := rfl
theorem rI_r (x : Nat) : xrI (some (.ref x)) = .areturn := rfl
theorem rI_n : xrI (some .null) = .areturn := rfl
theorem rI_a (x : Nat) : xrI (some (.retAddr x)) = .areturn := rfl
theorem rv_v : xrv none none = True := rfl
theorem rv_i (x : Int32) : xrv (some .int) (some (.int x)) = True := rfl
theorem rv_l (x : Int64) : xrv (some .long) (some (.long x)) = True := rfl
theorem rv_b (b : Bool) : xrv (some .boolean) (some (xbv b)) = True := by cases b <;> simp [xrv, xbv]
theorem rv_r (c : String) (x : Nat) : xrv (some (.object c)) (some (.ref x)) = True := rfl
theorem rv_n (c : String) : xrv (some (.object c)) (some .null) = True := rfl
theorem rv_a (c : String) (x : Nat) : xrv (some (.object c)) (some (.retAddr x)) = True := rfl
theorem cat_i (x : Int32) : (Value.int x).category = 1 := rfl
theorem cat_l (x : Int64) : (Value.long x).category = 2 := rfl
theorem cat_r (x : Nat) : (Value.ref x).category = 1 := rfl
theorem cat_n : Value.null.category = 1 := rfl
theorem cat_b (b : Bool) : (xbv b).category = 1 := rfl
theorem rI_b (b : Bool) : xrI (some (xbv b)) = .ireturn := rfl
theorem if_b (b : Bool) : fIf .ne (xbv b) = some b := by cases b <;> rfl
theorem af_0 {S : xS} {g : xSig} (h1 : g.2.2.2.2.cells = 0) (h2 : g.2.2.2.2.slots = 0) : xaf S g (0, 0) = True := by simp [xaf, h1, h2]
theorem kp_0 {g : xSig} (h1 : g.2.2.2.2.cells = 0) (h2 : g.2.2.2.2.slots = 0) (k : Nat × Nat) : xkp g k = k := by simp [xkp, h1, h2]
theorem bi_ (n : Int) (h1 : -128 ≤ n) (h2 : n < 128) : (Int8.ofInt n).toInt32 = Int32.ofInt n := by
  apply Int32.toInt_inj.mp
  rw [Int8.toInt_toInt32, Int8.toInt_ofInt_of_le h1 h2, Int32.toInt_ofInt_of_le (by omega) (by omega)]
theorem si2_ (n : Int) (h1 : -32768 ≤ n) (h2 : n < 32768) : (Int16.ofInt n).toInt32 = Int32.ofInt n := by
  apply Int32.toInt_inj.mp
  rw [Int16.toInt_toInt32, Int16.toInt_ofInt_of_le h1 h2, Int32.toInt_ofInt_of_le (by omega) (by omega)]
theorem fin3 : ((3 : Fin 4) : Nat) = 3 := rfl
theorem iz_n (f : Int32 → Int32 → Int32) (h : AH) (x : Int32) {b : Nat} (h0 : 0 < b) (hb : b < 2147483648) : fIIz f h (.int x) (.int (nI b)) = some (.int (f x (nI b))) := if_neg (nI_ne0 h0 hb)
theorem rem_n {a b : Nat} (ha : a < 2147483648) (h0 : 0 < b) (hb : b < 2147483648) : xrem (nI a) (nI b) = nI (a % b) := pk_rem ha h0 hb
theorem div_n {a b : Nat} (ha : a < 2147483648) (h0 : 0 < b) (hb : b < 2147483648) : nI a / nI b = nI (a / b) := pk_div ha h0 hb
theorem af_d {S : xS} {g : xSig} (h1 : Nat.ble g.2.2.2.2.cells S.2.2.2.1 = true) (h2 : Nat.ble g.2.2.2.2.slots S.2.2.2.2.1 = true) : xaf S g (0, 0) = True := by
  simp only [xaf, Nat.zero_add, eq_iff_iff, iff_true]
  exact ⟨Nat.le_of_ble_eq_true h1, Nat.le_of_ble_eq_true h2⟩
theorem kp_d {g : xSig} (h1 : g.2.2.2.2.cells = 0) (h2 : g.2.2.2.2.slots = 0) (k : Nat × Nat) : xkp g k = k := kp_0 h1 h2 k
theorem xM_iff {g : xSig} {b : SN (g.1.cls, (g.1.name, none), g.2.2.2.1, g.2.2.2.2.cells, g.2.2.2.2.slots, g.2.2.2.2.frames, g.2.2.2.2.locals)} {vs : List Value} {h : AH} {Rt : Option Value → AH → Prop} (L0 : List Value) (hl : (xent vs).length ≤ g.2.2.1) (hL : xen vs g.2.2.1 = L0) : xM g b vs h Rt ↔ b.1.2.2 L0 (0, 0) h (fun _ _ _ => False) (fun _ _ _ => False) (fun _ _ _ => False) (fun r h' => Rt r h' ∧ xrv g.2.2.2.1 r) := by
  rw [← hL]
  exact ⟨fun z => z.2, fun z => ⟨hl, z⟩⟩
theorem xinb_n {a n : Nat} (h : a < 2147483648) : xinb (nI a) n = decide (a < n) := by
  simp only [xinb, nI_clamp h]
  rw [decide_eq_true (nI_pos' h), Bool.true_and]
theorem clamp_n {a : Nat} (h : a < 2147483648) : (nI a).toNatClampNeg = a := nI_clamp h
theorem xc_lt {a b : Nat} (ha : a < 2147483648) (hb : b < 2147483648) : xcm .lt (nI a) (nI b) = decide (a < b) := by simp only [xcm, nI_ltI ha hb]
theorem xc_le {a b : Nat} (ha : a < 2147483648) (hb : b < 2147483648) : xcm .le (nI a) (nI b) = decide (a ≤ b) := by simp only [xcm, nI_leI ha hb]
theorem xc_gt {a b : Nat} (ha : a < 2147483648) (hb : b < 2147483648) : xcm .gt (nI a) (nI b) = decide (b < a) := by simp only [xcm, nI_ltI hb ha]
theorem xc_ge {a b : Nat} (ha : a < 2147483648) (hb : b < 2147483648) : xcm .ge (nI a) (nI b) = decide (b ≤ a) := by simp only [xcm, nI_leI hb ha]
theorem xc_eq {a b : Nat} (ha : a < 2147483648) (hb : b < 2147483648) : xcm .eq (nI a) (nI b) = decide (a = b) := by simp only [xcm, nI_eq ha hb]
theorem xc_ne {a b : Nat} (ha : a < 2147483648) (hb : b < 2147483648) : xcm .ne (nI a) (nI b) = !decide (a = b) := by simp only [xcm, nI_eq ha hb]
theorem nI_m (a b : Nat) : nI a * nI b = nI (a * b) := pk_mul a b
theorem nI_a (a b : Nat) : nI a + nI b = nI (a + b) := nI_add a b
/-- a counting loop: what holds behind i turns is told -/
theorem xlp_cnt {c : List Value → Nat × Nat → AH → (Bool → Nat × Nat → AH → Prop) → Prop} {b u : List Value → Nat × Nat → AH → xPo → xPo → xPo → (Option Value → AH → Prop) → Prop} {N : xPo} {R : Option Value → AH → Prop} {k : Nat × Nat} (n i0 : Nat) (Lf : Nat → List Value) (Hf : Nat → AH) (hi : i0 ≤ n)
    (hs : ∀ (i : Nat) (P : xPo), i0 ≤ i → i < n → P (Lf (i + 1)) k (Hf (i + 1)) → c (Lf i) k (Hf i) (fun v k' h' => if v = true then b (Lf i) k' h' (fun L2 k2 h2 => u L2 k2 h2 P (fun _ _ _ => False) (fun _ _ _ => False) R) N (fun L2 k2 h2 => u L2 k2 h2 P (fun _ _ _ => False) (fun _ _ _ => False) R) R else N (Lf i) k' h'))
    (he : ∀ (P : xPo), c (Lf n) k (Hf n) (fun v k' h' => if v = true then b (Lf n) k' h' (fun L2 k2 h2 => u L2 k2 h2 P (fun _ _ _ => False) (fun _ _ _ => False) R) N (fun L2 k2 h2 => u L2 k2 h2 P (fun _ _ _ => False) (fun _ _ _ => False) R) R else N (Lf n) k' h')) :
    ∃ m, xlp c b u N (fun _ _ _ => False) (fun _ _ _ => False) R m (Lf i0) k (Hf i0) := by
  refine xlp_by (σ := Nat) (fun i L k' h => i0 ≤ i ∧ i ≤ n ∧ L = Lf i ∧ k' = k ∧ h = Hf i) (fun i => n - i) ?_ i0 _ _ _ ⟨Nat.le_refl _, hi, rfl, rfl, rfl⟩
  rintro i L k' h P ⟨h0, h1, rfl, rfl, rfl⟩ hP
  by_cases e : i = n
  · subst e; exact he P
  · exact hs i P h0 (by omega) (hP (i + 1) _ _ _ (by omega) ⟨by omega, by omega, rfl, rfl, rfl⟩)
/-! counting loops as equations; copies, what is remembered -/
theorem dt_lt {a b : Nat} (h : a < b) : decide (a < b) = true := decide_eq_true h
theorem df_lt {a b : Nat} (h : b ≤ a) : decide (a < b) = false := decide_eq_false (by omega)
theorem dt_le {a b : Nat} (h : a ≤ b) : decide (a ≤ b) = true := decide_eq_true h
theorem df_le {a b : Nat} (h : b < a) : decide (a ≤ b) = false := decide_eq_false (by omega)
theorem dt_eq {a b : Nat} (h : a = b) : decide (a = b) = true := decide_eq_true h
theorem df_eq {a b : Nat} (h : a ≠ b) : decide (a = b) = false := decide_eq_false h
def xfo {α : Type} (f : Nat → α → α) : Nat → α → α
  | 0, a => a
  | n + 1, a => f n (xfo f n a)
theorem xfo_0 {α : Type} (f : Nat → α → α) (a : α) : xfo f 0 a = a := rfl
theorem xfo_s {α : Type} (f : Nat → α → α) (n : Nat) (a : α) : xfo f (n + 1) a = f n (xfo f n a) := rfl
theorem xfo_inv {α : Type} (f : Nat → α → α) (I : Nat → α → Prop) {n : Nat} {a : α} (h0 : I 0 a) (hs : ∀ i x, i < n → I i x → I (i + 1) (f i x)) : I n (xfo f n a) := by
  have key : ∀ m, m ≤ n → I m (xfo f m a) := by
    intro m
    induction m with
    | zero => exact fun _ => h0
    | succ m ih => exact fun hm => hs m _ (by omega) (ih (by omega))
  exact key n (Nat.le_refl n)
/-- a counting loop as an equation -/
theorem xlp_cn {c : List Value → Nat × Nat → AH → (Bool → Nat × Nat → AH → Prop) → Prop} {b u : List Value → Nat × Nat → AH → xPo → xPo → xPo → (Option Value → AH → Prop) → Prop} {N : xPo} {R : Option Value → AH → Prop} {k : Nat × Nat} {L : List Value} {H : AH} (n i0 : Nat) (Lf : Nat → List Value) (Hf : Nat → AH) (hL : Lf i0 = L) (hH : Hf i0 = H) (hi : i0 ≤ n)
    (hs : ∀ (i : Nat) (P : xPo), i0 ≤ i → i < n → (c (Lf i) k (Hf i) (fun v k' h' => if v = true then b (Lf i) k' h' (fun L2 k2 h2 => u L2 k2 h2 P (fun _ _ _ => False) (fun _ _ _ => False) R) N (fun L2 k2 h2 => u L2 k2 h2 P (fun _ _ _ => False) (fun _ _ _ => False) R) R else N (Lf i) k' h') ↔ P (Lf (i + 1)) k (Hf (i + 1))))
    (he : ∀ (P : xPo), c (Lf n) k (Hf n) (fun v k' h' => if v = true then b (Lf n) k' h' (fun L2 k2 h2 => u L2 k2 h2 P (fun _ _ _ => False) (fun _ _ _ => False) R) N (fun L2 k2 h2 => u L2 k2 h2 P (fun _ _ _ => False) (fun _ _ _ => False) R) R else N (Lf n) k' h') ↔ N (Lf n) k (Hf n)) :
    (∃ m, xlp c b u N (fun _ _ _ => False) (fun _ _ _ => False) R m L k H) ↔ N (Lf n) k (Hf n) := by
  subst hL hH
  constructor
  · rintro ⟨m, hm⟩
    have key : ∀ m i, i0 ≤ i → i ≤ n → xlp c b u N (fun _ _ _ => False) (fun _ _ _ => False) R m (Lf i) k (Hf i) → N (Lf n) k (Hf n) := by
      intro m
      induction m with
      | zero => intro i _ _ hx; exact hx.elim
      | succ m ih =>
        intro i h0 h1 hx
        by_cases e : i = n
        · subst e; exact (he _).mp hx
        · exact ih (i + 1) (by omega) (by omega) ((hs i _ h0 (by omega)).mp hx)
    exact key m i0 (Nat.le_refl _) hi hm
  · intro hN
    refine xlp_cnt n i0 Lf Hf hi (fun i P h0 h1 hP => (hs i P h0 h1).mpr hP) (fun P => (he P).mpr hN)
/-- a loop by states: each turn goes on to another one, or out -/
def xit {S : Type} (st : S → Option S) : Nat → S → S
  | 0, s => s
  | n + 1, s => match st s with | none => s | some s' => xit st n s'
theorem xlp_st {c : List Value → Nat × Nat → AH → (Bool → Nat × Nat → AH → Prop) → Prop} {b u : List Value → Nat × Nat → AH → xPo → xPo → xPo → (Option Value → AH → Prop) → Prop} {N : xPo} {R : Option Value → AH → Prop} {k : Nat × Nat} {L : List Value} {H : AH} {S : Type} (st : S → Option S) (X : S → Prop) (μ : S → Nat) (I : S → Prop) (Lf : S → List Value) (Hf : S → AH) (s0 : S) (hL : Lf s0 = L) (hH : Hf s0 = H) (h0 : I s0)
    (hI : ∀ s s', I s → st s = some s' → I s' ∧ μ s' < μ s)
    (hs : ∀ (s : S) (P : xPo), I s → (c (Lf s) k (Hf s) (fun v k' h' => if v = true then b (Lf s) k' h' (fun L2 k2 h2 => u L2 k2 h2 P (fun _ _ _ => False) (fun _ _ _ => False) R) N (fun L2 k2 h2 => u L2 k2 h2 P (fun _ _ _ => False) (fun _ _ _ => False) R) R else N (Lf s) k' h') ↔ match st s with | none => X s | some s' => P (Lf s') k (Hf s'))) :
    (∃ m, xlp c b u N (fun _ _ _ => False) (fun _ _ _ => False) R m L k H) ↔ X (xit st (μ s0) s0) := by
  subst hL hH
  have fin : ∀ n s, I s → μ s ≤ n → st (xit st n s) = none := by
    intro n
    induction n with
    | zero =>
      intro s hs0 hn
      show st s = none
      cases e : st s with
      | none => rfl
      | some s' => have := (hI s s' hs0 e).2; omega
    | succ n ih =>
      intro s hs0 hn
      cases e : st s with
      | none => simp only [xit, e]
      | some s' => simp only [xit, e]; have := hI s s' hs0 e; exact ih s' this.1 (by omega)
  have mono : ∀ n n' s, I s → μ s ≤ n → μ s ≤ n' → xit st n s = xit st n' s := by
    intro n
    induction n with
    | zero =>
      intro n' s hs0 hn hn'
      have e : st s = none := fin 0 s hs0 hn
      cases n' with
      | zero => rfl
      | succ n' => simp only [xit, e]
    | succ n ih =>
      intro n' s hs0 hn hn'
      cases e : st s with
      | none => cases n' with
        | zero => simp only [xit, e]
        | succ n' => simp only [xit, e]
      | some s' =>
        have hh := hI s s' hs0 e
        cases n' with
        | zero => omega
        | succ n' => simp only [xit, e]; exact ih n' s' hh.1 (by omega) (by omega)
  have one : ∀ s s', I s → st s = some s' → xit st (μ s) s = xit st (μ s') s' := by
    intro s s' hs0 e
    have hh := hI s s' hs0 e
    cases em : μ s with
    | zero => omega
    | succ n => simp only [xit, e]; exact mono n (μ s') s' hh.1 (by omega) (Nat.le_refl _)
  have non : ∀ s, I s → st s = none → xit st (μ s) s = s := by
    intro s hs0 e
    cases em : μ s with
    | zero => rfl
    | succ n => simp only [xit, e]
  constructor
  · rintro ⟨m, hm⟩
    have key : ∀ m s, I s → xlp c b u N (fun _ _ _ => False) (fun _ _ _ => False) R m (Lf s) k (Hf s) → X (xit st (μ s) s) := by
      intro m
      induction m with
      | zero => intro s _ hx; exact hx.elim
      | succ m ih =>
        intro s hs0 hx
        have hx' := (hs s _ hs0).mp hx
        cases e : st s with
        | none => rw [e] at hx'; rw [non s hs0 e]; exact hx'
        | some s' => rw [e] at hx'; rw [one s s' hs0 e]; exact ih s' (hI s s' hs0 e).1 hx'
    exact key m s0 h0 hm
  · intro hX
    refine xlp_by (σ := S) (fun s L k' h => I s ∧ L = Lf s ∧ k' = k ∧ h = Hf s ∧ X (xit st (μ s) s)) μ ?_ s0 _ _ _ ⟨h0, rfl, rfl, rfl, hX⟩
    rintro s L k' h P ⟨hs0, rfl, rfl, rfl, hx⟩ hP
    refine (hs s P hs0).mpr ?_
    cases e : st s with
    | none => rw [non s hs0 e] at hx; exact hx
    | some s' =>
      have hh := hI s s' hs0 e
      exact hP s' _ _ _ hh.2 ⟨hh.1, rfl, rfl, rfl, by rw [← one s s' hs0 e]; exact hx⟩
theorem lq_cn {c : List Value → Nat × Nat → AH → (Bool → Nat × Nat → AH → Prop) → Prop} {b u : List Value → Nat × Nat → AH → xPo → xPo → xPo → (Option Value → AH → Prop) → Prop} {N : xPo} {R : Option Value → AH → Prop} {k : Nat × Nat} {L : List Value} {H : AH} (n i0 : Nat) (Lf : Nat → List Value) (Hf : Nat → AH) (hL : Lf i0 = L) (hH : Hf i0 = H) (hi : i0 ≤ n)
    (hs : ∀ (i : Nat) (P : xPo), i0 ≤ i → i < n → (c (Lf i) k (Hf i) (fun v k' h' => if v = true then b (Lf i) k' h' (fun L2 k2 h2 => u L2 k2 h2 P (fun _ _ _ => False) (fun _ _ _ => False) R) N (fun L2 k2 h2 => u L2 k2 h2 P (fun _ _ _ => False) (fun _ _ _ => False) R) R else N (Lf i) k' h') ↔ P (Lf (i + 1)) k (Hf (i + 1))))
    (he : ∀ (P : xPo), c (Lf n) k (Hf n) (fun v k' h' => if v = true then b (Lf n) k' h' (fun L2 k2 h2 => u L2 k2 h2 P (fun _ _ _ => False) (fun _ _ _ => False) R) N (fun L2 k2 h2 => u L2 k2 h2 P (fun _ _ _ => False) (fun _ _ _ => False) R) R else N (Lf n) k' h') ↔ N (Lf n) k (Hf n)) {f : xFx (c, b, u, N, R)} : lq c b u N R f L k H ↔ N (Lf n) k (Hf n) := xlp_cn n i0 Lf Hf hL hH hi hs he
theorem lq_st {c : List Value → Nat × Nat → AH → (Bool → Nat × Nat → AH → Prop) → Prop} {b u : List Value → Nat × Nat → AH → xPo → xPo → xPo → (Option Value → AH → Prop) → Prop} {N : xPo} {R : Option Value → AH → Prop} {k : Nat × Nat} {L : List Value} {H : AH} {S : Type} (st : S → Option S) (X : S → Prop) (μ : S → Nat) (I : S → Prop) (Lf : S → List Value) (Hf : S → AH) (s0 : S) (hL : Lf s0 = L) (hH : Hf s0 = H) (h0 : I s0)
    (hI : ∀ s s', I s → st s = some s' → I s' ∧ μ s' < μ s)
    (hs : ∀ (s : S) (P : xPo), I s → (c (Lf s) k (Hf s) (fun v k' h' => if v = true then b (Lf s) k' h' (fun L2 k2 h2 => u L2 k2 h2 P (fun _ _ _ => False) (fun _ _ _ => False) R) N (fun L2 k2 h2 => u L2 k2 h2 P (fun _ _ _ => False) (fun _ _ _ => False) R) R else N (Lf s) k' h') ↔ match st s with | none => X s | some s' => P (Lf s') k (Hf s'))) {f : xFx (c, b, u, N, R)} : lq c b u N R f L k H ↔ X (xit st (μ s0) s0) := xlp_st st X μ I Lf Hf s0 hL hH h0 hI hs
theorem xz_eq {a : Nat} (ha : a < 2147483648) : xcm .eq (nI a) 0 = decide (a = 0) := xc_eq (b := 0) ha (by omega)
theorem xz_ne {a : Nat} (ha : a < 2147483648) : xcm .ne (nI a) 0 = !decide (a = 0) := xc_ne (b := 0) ha (by omega)
theorem xz_lt {a : Nat} (ha : a < 2147483648) : xcm .lt (nI a) 0 = false := (xc_lt (b := 0) ha (by omega)).trans (decide_eq_false (by omega))
theorem xz_ge {a : Nat} (ha : a < 2147483648) : xcm .ge (nI a) 0 = true := (xc_ge (b := 0) ha (by omega)).trans (decide_eq_true (by omega))
theorem xz_gt {a : Nat} (ha : a < 2147483648) : xcm .gt (nI a) 0 = decide (0 < a) := xc_gt (b := 0) ha (by omega)
theorem xz_le {a : Nat} (ha : a < 2147483648) : xcm .le (nI a) 0 = decide (a ≤ 0) := xc_le (b := 0) ha (by omega)
theorem rv_b1 : xrv (some .boolean) (some (.int (nI 1))) = True := by simp [xrv, nI]
theorem rv_b0 : xrv (some .boolean) (some (.int (nI 0))) = True := by simp [xrv, nI]
/-- a local laid in each turn, v ahead of the first -/
def xjw (v : Value) (g : Nat → Int32) : Nat → Value
  | 0 => v
  | i + 1 => .int (g i)
theorem xjw_0 (v : Value) (g : Nat → Int32) : xjw v g 0 = v := rfl
theorem xjw_s (v : Value) (g : Nat → Int32) (i : Nat) : xjw v g (i + 1) = .int (g i) := rfl
