/-! all characters, the table of their functions, abstract -/
def uwT (r : Nat → Int32) (i : Nat) : T3 := wtT r (unU i)
theorem unU_b (i : Nat) : ∀ k, k < 3 → (unU i k).toInt.natAbs ≤ 9 := by
  intro k _
  rw [unU]
  split <;> decide
theorem un_pv {r : Nat → Int32} (hb : bsOK r) (h0 : 0 < szN r) (i : Nat) {e : Nat} (he : e < szN r) : unN r i e = pvN r (uwT r i) e := qt_pv hb h0 (unU_b i) he
def adT (w : T3) (l : List T3) : List T3 := if w ∈ l then l else l ++ [w]
def arT (r : Nat → Int32) (w : T3) (n : Nat) (l : List T3) : List T3 := xfo (fun i l => adT (t3a (szN r) w (uwT r i)) l) n l
theorem arT_s (r : Nat → Int32) (w : T3) (n : Nat) (l : List T3) : arT r w (n + 1) l = adT (t3a (szN r) w (uwT r n)) (arT r w n l) := rfl
def clT (r : Nat → Int32) (n : Nat) : Nat → Nat → List T3 → List T3
  | 0, _, l => l
  | f + 1, k, l => if k < l.length then clT r n f (k + 1) (arT r (l.getD k (0, 0, 0)) n l) else l
def chF (r : Nat → Int32) (n : Nat) : List T3 := clT r n (szN r) 0 [(0, 0, 0)]
def chOK (r : Nat → Int32) (l : List T3) : Prop := l.Nodup ∧ ∀ w, w ∈ l → chT r w
theorem adT_ok {r : Nat → Int32} {w : T3} {l : List T3} (hl : chOK r l) (hw : chT r w) : chOK r (adT w l) := by
  rw [adT]
  split
  · exact hl
  · next c =>
    refine ⟨?_, fun x hx => ?_⟩
    · rw [List.nodup_append]
      refine ⟨hl.1, by simp, ?_⟩
      intro a ha b hb e
      simp only [List.mem_cons, List.not_mem_nil, or_false] at hb
      exact c (by rw [← hb, ← e]; exact ha)
    · rcases List.mem_append.mp hx with h | h
      · exact hl.2 x h
      · simp only [List.mem_cons, List.not_mem_nil, or_false] at h
        rw [h]; exact hw
theorem adT_get {w : T3} {l : List T3} {k : Nat} (hk : k < l.length) : (adT w l).getD k (0, 0, 0) = l.getD k (0, 0, 0) ∧ k < (adT w l).length := by
  rw [adT]
  split
  · exact ⟨rfl, hk⟩
  · refine ⟨?_, by simp; omega⟩
    rw [List.getD_eq_getElem?_getD, List.getD_eq_getElem?_getD, List.getElem?_append_left hk]
theorem arT_get {r : Nat → Int32} {w : T3} {l : List T3} {k : Nat} (hk : k < l.length) : ∀ n, (arT r w n l).getD k (0, 0, 0) = l.getD k (0, 0, 0) ∧ k < (arT r w n l).length := by
  intro n
  induction n with
  | zero => exact ⟨rfl, hk⟩
  | succ n ih =>
    rw [arT_s]
    obtain ⟨h1, h2⟩ := adT_get (w := t3a (szN r) w (uwT r n)) ih.2
    exact ⟨h1.trans ih.1, h2⟩
theorem arT_ok {r : Nat → Int32} {w : T3} {l : List T3} (hb : bsOK r) (h0 : 0 < szN r) (hl : chOK r l) (hw : chT r w) : ∀ n, chOK r (arT r w n l) := by
  intro n
  induction n with
  | zero => exact hl
  | succ n ih => rw [arT_s]; exact adT_ok ih (chT_add h0 hw (chT_wt _ hb h0))
theorem get_mem {l : List T3} {k : Nat} (hk : k < l.length) : l.getD k (0, 0, 0) ∈ l := by
  rw [List.getD_eq_getElem?_getD, List.getElem?_eq_getElem hk]
  exact List.getElem_mem hk
theorem ch0_ok {r : Nat → Int32} (h0 : 0 < szN r) : chOK r [(0, 0, 0)] := ⟨by simp, fun w hw => by
  simp only [List.mem_cons, List.not_mem_nil, or_false] at hw
  rw [hw]; exact chT_0 h0⟩
theorem clT_ok {r : Nat → Int32} (hb : bsOK r) (h0 : 0 < szN r) (n : Nat) : ∀ f k l, chOK r l → chOK r (clT r n f k l) := by
  intro f
  induction f with
  | zero => intro k l hl; exact hl
  | succ f ih =>
    intro k l hl
    rw [clT]
    split
    · next c => exact ih _ _ (arT_ok hb h0 hl (hl.2 _ (get_mem c)) n)
    · exact hl
theorem chF_ok {r : Nat → Int32} (hb : bsOK r) (h0 : 0 < szN r) (n : Nat) : chOK r (chF r n) := clT_ok hb h0 n _ _ _ (ch0_ok h0)
/-- units of rows beyond m count nothing -/
theorem t3a_0 {r : Nat → Int32} {w : T3} (hw : chT r w) : t3a (szN r) w (0, 0, 0) = w := by
  obtain ⟨⟨h0, h1, h2⟩, -⟩ := hw
  rw [t3a]
  exact Prod.ext (Nat.mod_eq_of_lt h0) (Prod.ext (Nat.mod_eq_of_lt h1) (Nat.mod_eq_of_lt h2))
theorem arT_m {r : Nat → Int32} {w : T3} {l : List T3} (hw : chT r w) (hm : w ∈ l) {m : Nat} : ∀ n, (∀ i, m ≤ i → i < m + n → uwT r i = (0, 0, 0)) → arT r w (m + n) l = arT r w m l := by
  have mem : ∀ n, w ∈ arT r w n l := by
    intro n
    induction n with
    | zero => exact hm
    | succ n ih =>
      rw [arT_s, adT]
      split
      · exact ih
      · exact List.mem_append_left _ ih
  intro n
  induction n with
  | zero => intro _; rfl
  | succ n ih =>
    intro h
    rw [← Nat.add_assoc, arT_s, ih (fun i a b => h i a (by omega)), h (m + n) (by omega) (by omega), t3a_0 hw, adT, if_pos (mem m)]
theorem clT_m {r : Nat → Int32} (hb : bsOK r) (h0 : 0 < szN r) {m n : Nat} (hu : ∀ i, m ≤ i → i < m + n → uwT r i = (0, 0, 0)) : ∀ f k l, chOK r l → clT r (m + n) f k l = clT r m f k l := by
  intro f
  induction f with
  | zero => intro k l _; rfl
  | succ f ih =>
    intro k l hl
    rw [clT, clT]
    split
    · next c =>
      have hw := hl.2 _ (get_mem c)
      rw [arT_m hw (get_mem c) n hu]
      exact ih _ _ (arT_ok hb h0 hl hw m)
    · rfl
/-- a character's function, put into the table -/
def gmC (r : Nat → Int32) (w : T3) : Nat → Nat := gmN (szN r) 1 (pvN r w) (glN r)
def fnC (r : Nat → Int32) (w : T3) : Nat → Nat := fun e => gmC r w e / gcN (gmC r w) (szN r)
def tbS (r : Nat → Int32) (tb : List (Nat → Nat)) (w : T3) : List (Nat → Nat) := if pvN r w (glN r) = 0 then tb else insL (szN r) (fnC r w) tb
def tbF (r : Nat → Int32) (l : List T3) : List (Nat → Nat) := l.foldl (tbS r) []
theorem tbF_ad (r : Nat → Int32) (w : T3) (l : List T3) : tbF r (adT w l) = if w ∈ l then tbF r l else tbS r (tbF r l) w := by
  rw [adT]
  split
  · rfl
  · rw [tbF, List.foldl_append]; rfl
theorem insL_len (D : Nat) (w : Nat → Nat) : ∀ l, (insL D w l).length ≤ l.length + 1
  | [] => by simp [insL]
  | x :: l => by
    have := insL_len D w l
    rw [insL]
    split
    · simp only [List.length_cons]; omega
    · split <;> simp only [List.length_cons] <;> omega
theorem insL_mem (D : Nat) (w : Nat → Nat) : ∀ l f, f ∈ insL D w l → f = w ∨ f ∈ l
  | [], f, h => by simp [insL] at h; exact Or.inl h
  | x :: l, f, h => by
    rw [insL] at h
    split at h
    · rcases List.mem_cons.mp h with h | h
      · exact Or.inr (by rw [h]; exact List.mem_cons_self)
      · rcases insL_mem D w l f h with h | h
        · exact Or.inl h
        · exact Or.inr (List.mem_cons_of_mem _ h)
    · split at h
      · exact Or.inr h
      · rcases List.mem_cons.mp h with h | h
        · exact Or.inl h
        · exact Or.inr h
/-- what each function of the table is -/
def fnOK (r : Nat → Int32) (f : Nat → Nat) : Prop := (∀ e, e < szN r → f e ≤ 576) ∧ 0 < f (glN r)
theorem gcN_dv (w : Nat → Nat) : ∀ n e, e < n → gcN w n ∣ w e := by
  intro n
  induction n with
  | zero => intro e he; omega
  | succ n ih =>
    intro e he
    rw [gcN_s]
    by_cases c : e = n
    · rw [c]; exact Nat.gcd_dvd_right _ _
    · exact Nat.dvd_trans (Nat.gcd_dvd_left _ _) (ih e (by omega))
theorem pv_lt {r : Nat → Int32} (h0 : 0 < szN r) (w : T3) (e : Nat) : pvN r w e < szN r := Nat.mod_lt _ h0
theorem gmC_g {r : Nat → Int32} (h0 : 0 < szN r) (w : T3) : gmC r w (glN r) = pvN r w (glN r) * (szN r - pvN r w (glN r)) := by
  rw [gmC, gmN, if_pos (Nat.le_refl _), Nat.one_mul, Nat.mod_eq_of_lt (pv_lt h0 w _)]
theorem gmC_pos {r : Nat → Int32} (h0 : 0 < szN r) {w : T3} (hp : pvN r w (glN r) ≠ 0) : 0 < gmC r w (glN r) := by
  have := pv_lt h0 w (glN r)
  rw [gmC_g h0]
  exact Nat.mul_pos (by omega) (by omega)
theorem gcC_pos {r : Nat → Int32} (hb : bsOK r) (h0 : 0 < szN r) {w : T3} (hp : pvN r w (glN r) ≠ 0) : 0 < gcN (gmC r w) (szN r) := by
  have h1 := gcN_dv (gmC r w) (szN r) (glN r) (gl_lt hb h0)
  have h2 := gmC_pos h0 hp
  exact Nat.pos_of_dvd_of_pos h1 h2
theorem fnC_ok {r : Nat → Int32} (hb : bsOK r) (h0 : 0 < szN r) {w : T3} (hp : pvN r w (glN r) ≠ 0) : fnOK r (fnC r w) := by
  have hD := szN_le r
  refine ⟨fun e he => Nat.le_trans (Nat.div_le_self _ _) (gmN_le h0 hD), ?_⟩
  have h1 := gcN_dv (gmC r w) (szN r) (glN r) (gl_lt hb h0)
  have h2 := gmC_pos h0 hp
  exact Nat.div_pos (Nat.le_of_dvd h2 h1) (gcC_pos hb h0 hp)
theorem tbF_ok {r : Nat → Int32} (hb : bsOK r) (h0 : 0 < szN r) (l : List T3) : (tbF r l).length ≤ l.length ∧ ∀ f, f ∈ tbF r l → fnOK r f := by
  have key : ∀ (l : List T3) (tb : List (Nat → Nat)) (n : Nat), tb.length ≤ n → (∀ f, f ∈ tb → fnOK r f) → (l.foldl (tbS r) tb).length ≤ l.length + n ∧ ∀ f, f ∈ l.foldl (tbS r) tb → fnOK r f := by
    intro l
    induction l with
    | nil => intro tb n h1 h2; exact ⟨by simpa using h1, h2⟩
    | cons w l ih =>
      intro tb n h1 h2
      have := ih (tbS r tb w) (n + 1) (by
        rw [tbS]; split
        · omega
        · have := insL_len (szN r) (fnC r w) tb
          omega) (by
        rw [tbS]; split
        · exact h2
        · next c =>
          intro f hf
          rcases insL_mem _ _ _ _ hf with e | e
          · rw [e]; exact fnC_ok hb h0 c
          · exact h2 f e)
      rw [List.foldl_cons, List.length_cons]
      exact ⟨by omega, this.2⟩
  have := key l [] 0 (Nat.le_refl _) (fun f hf => by simp at hf)
  exact ⟨this.1, this.2⟩
theorem fn_mem {l : List (Nat → Nat)} {i : Nat} (hi : i < l.length) : fnAt l i ∈ l := by
  rw [fnAt, List.getD_eq_getElem?_getD, List.getElem?_eq_getElem hi]
  exact List.getElem_mem hi
theorem chR_iff {D : Nat} {c : Nat → Nat → Nat} {p : Nat → Nat} : ∀ n k, chR D c p n k = true ↔ ∃ i, k ≤ i ∧ i < k + n ∧ ∀ e, e < D → c i e = p e := by
  intro n
  induction n with
  | zero =>
    intro k
    rw [chR]
    constructor
    · intro z; cases z
    · rintro ⟨i, h1, h2, -⟩; omega
  | succ n ih =>
    intro k
    rw [chR]
    split
    · next h => exact ⟨fun _ => ⟨k, Nat.le_refl _, by omega, (chE_iff D).mp h⟩, fun _ => rfl⟩
    · next h =>
      rw [ih]
      constructor
      · rintro ⟨i, h1, h2, h3⟩; exact ⟨i, by omega, by omega, h3⟩
      · rintro ⟨i, h1, h2, h3⟩
        refine ⟨i, ?_, by omega, h3⟩
        by_cases d : i = k
        · subst d; exact absurd ((chE_iff D).mpr h3) h
        · omega
/-- the reference's rows hold these characters, this table -/
def chS (r : Nat → Int32) (l : List T3) (σ : MS) : Prop := σ.1 50 = nI l.length ∧ (∀ i e, i < l.length → e < szN r → σ.2.2.1 191 (24 * i + e) = nI (pvN r (l.getD i (0, 0, 0)) e)) ∧ σ.1 47 = nI (tbF r l).length ∧ tabR (szN r) (tbF r l) (σ.2.2.1 189)
theorem chR_mem {r : Nat → Int32} (hb : bsOK r) (h0 : 0 < szN r) {l : List T3} {w : T3} (hl : chOK r l) (hw : chT r w) : chR (szN r) (fun k e => pvN r (l.getD k (0, 0, 0)) e) (pvN r w) l.length 0 = decide (w ∈ l) := by
  rw [Bool.eq_iff_iff, chR_iff, decide_eq_true_eq]
  constructor
  · rintro ⟨i, -, h2, h3⟩
    have hi : i < l.length := by omega
    have := pv_inj hb h0 (hl.2 _ (get_mem hi)) hw h3
    rw [← this]; exact get_mem hi
  · intro hm
    obtain ⟨i, hi, e⟩ := List.getElem_of_mem hm
    refine ⟨i, Nat.zero_le _, by omega, fun k _ => ?_⟩
    show pvN r (l.getD i (0, 0, 0)) k = _
    rw [List.getD_eq_getElem?_getD, List.getElem?_eq_getElem hi, ← e]
    rfl
theorem p_addChar {r : Nat → Int32} {nc : Nat} {h : AH} {σ : MS} {Q : Option Value → AH → Prop} {l : List T3} {w : T3} (hb : bsOK r) (h0 : 0 < szN r) (hg : rGp r nc σ) (hl : chOK r l) (hw : chT r w) (hs : chS r l σ) (hp : ∀ e, e < szN r → σ.2.2.1 182 e = nI (pvN r w e))
    (K : ∀ σ', rGp r nc σ' → fr [47, 50] [184, 189, 191] σ σ' → chS r (adT w l) σ' → Q none (mk h σ')) : m_X12_addChar.1 [.ref 162] (mk h σ) Q := by
  have hD := szN_le r
  have hgl := gl_lt hb h0
  have hll := ch_len hb h0 hl.1 hl.2
  have hpl := fun e => pv_lt h0 w e
  have htl := tbF_ok hb h0 l
  have gd := hg.2.1
  have gg := hg.2.2.1
  have IC := fun Q' (K' : Q' (some (xbv (decide (w ∈ l)))) (mk h σ)) => p_isChar (h := h) (Q := Q') (c := fun k e => pvN r (l.getD k (0, 0, 0)) e) (p := pvN r w) gd hD hs.1 (by omega) (fun k e hk he => ⟨hs.2.1 k e hk he, by have := pv_lt h0 (l.getD k (0, 0, 0)) e; omega⟩) (fun e he => ⟨hp e he, by have := hpl e; omega⟩) (by rw [chR_mem hb h0 hl hw]; exact K')
  by_cases cm : w ∈ l
  · rw [decide_eq_true cm] at IC
    rw [adT, if_pos cm] at K
    have K := K σ hg (fr_refl _ _ _) hs
    refine (xM_iff (g := g_X12_addChar) (b := b_X12_addChar) [.ref 162, xjk] (Nat.le_of_ble_eq_true rfl) rfl).mpr ?_
    simp (disch := first | omega | decide | rfl | (simp (disch := omega) only [gA_eq, gA_ne, gA_1, gA_21, gA_222, gF_eq, gF_ne, gF_2, gW_1, gW_21, gW_22, gL_eq, gL_ne, gL_1, gL_21, gL_221, xupd_ne, xupd_e2, rem164, not_false_eq_true, implies_true, *])) only [b_X12_addChar, g_X12_addChar, zPIc, zPBi, zPSi, zPLdc, zPLdcw, zPLd2, zPLc, zPNull, zPIn, zPI, zPLn, zPL, zPAn, zPA, zPStr, zPCs, zPU, zPB, zPBv, zPTn, zCIf, zCCm, zCNl, zCNot, zCAnd, zCOr, zOAdd, zOSub, zOMul, zOAnd, zOOr, zOXor, zOShl, zOShr, zOUshr, zODiv, zORem, zOAddL, zOSubL, zOMulL, zOAndL, zOXorL, zORemL, zOShlL, zOShrL, zOCmpL, zOIald, zOLald, zOZald, zOAald, zOI2l, zOL2i, zONeg, zONegL, zOGet, zOAlen, zOScrL, zOScr, zOSv, zOScd, zOBln, zOBld, zOI2c, zLIn, zLI, zLLn, zLL, zLAn, zLA, zQPut, zTI, zTL, zTZ, zTA, ↓yEP, ↓yEU, ↓yEB, ↓yDC, ↓yDIf, ↓yDCm, ↓zDNot, ↓zDAnd, ↓zDOr, ↓zEBv, ↓zETn, ↓zAN, ↓zAC, ↓yKV, ↓yKS, ↓yKX, ↓yKAc, ↓yEK, ↓yENew, ↓yENa, ↓zSNop, ↓zSSeq, ↓zSBrk, ↓zSCnt, ↓zSSB, ↓zSSC, ↓zSSc, ↓zSIf, ↓zSIfE, ↓zSIfR, ↓zSIfB, ↓zSIfC, ↓zSDead, ↓ySSt, ↓ySInc, ↓ySPut, ↓ySPutC, ↓ySAst, ↓ySAstC, ↓ySK, ↓ySKp, ↓zSRv, ↓ySR, ↓ySLp, ↓ySWh, ↓ySSw, ob_s, ob_n, gd_t, gd_f, okx_r, xai_i, li0, lis, ll0, lls, la0, la0n, la0r, las, xs1_0, xs1_1, xs1_s, xs2_0, xs2_1, xs2_s, xisl_i, xisl_r, xisl_n, xisl_a, xisl_j, xisl_l, si_0, si_1, si_s, sl_0, sl_1, sl_s, sa_0, sa_1, sa_s, inc_, ii_, iz_, ll_, lz_, lsh_, lc_, i2l_, l2i_, neg_, negl_, if_, cm_, nl_r, nl_n, rI_i, rI_l, rI_r, rI_n, rI_a, rv_v, rv_i, rv_l, rv_b, rv_b1, rv_b0, rv_r, rv_n, rv_a, cat_i, cat_l, cat_r, cat_n, cat_b, rI_b, if_b, bi_, si2_, Option.bind_some, Option.bind_none, Option.map_some, Option.some.injEq, exists_eq_left, exists_eq_left', List.getElem?_cons_zero, List.getElem?_cons_succ, List.length_cons, List.length_nil, ↓reduceIte, true_and, and_true, Fin.isValue, Fin.val_zero, Fin.val_one, Fin.val_two, Fin.reduceFinMk, reduceCtorEq, exists_const, Bool.false_eq_true, Nat.reduceAdd, Nat.zero_add, Nat.reduceMul, Nat.reduceLeDiff, Nat.le_refl, exists_and_left, List.set_cons_zero, List.set_cons_succ, okM, mg0, mp0, mg1, mp1, mg2, mg3, mg4, mg5, mg6, mp6, mg7, mg8, mg9, mg10, mg11, mg12, mp12, mg13, mg14, mp14, mg15, mg16, mg17, mg18, mg19, mg20, mp20, mg21, mg22, mg23, mp23, mg24, mp24, mg25, mp25, mg26, mp26, mg27, mp27, mg28, mp28, mg29, mg30, mg31, mg32, mp32, mg33, mp33, mg34, mg35, mg36, mg37, mp37, mg38, mp38, mg39, mp39, mg40, mg41, mg42, mg43, mg44, mp44, mg45, mp45, mg46, mg47, mp47, mg48, mg49, mg50, mp50, na163, nt163, na164, nt164, na165, nt165, na166, nt166, na167, nt167, na168, nt168, na169, nt169, na170, nt170, na171, nt171, na172, nt172, na173, nt173, na174, nt174, na175, nt175, na176, nt176, na177, nt177, na178, nt178, na179, nt179, na180, nt180, na181, nt181, na182, nt182, na183, nt183, na184, nt184, na185, nt185, na186, nt186, na187, nt187, na188, nt188, na189, nt189, na190, nt190, na191, nt191, mpZ, mcV, zb0, zb1, zb2, zb3, bI_ne, bI_eq, oI0, oI1, oI2, oI3, oI4, oI5, oI6, oI7, oI8, oI9, oI10, oI11, oI12, oI13, oI14, oI15, oI16, oI18, oI20, oI22, oI23, oI24, oI25, oI26, oI30, oI31, oI32, oI39, oI40, oI45, oI48, oI50, oI57, oI64, oI72, oI96, oI97, oI99, oI100, oI122, oI192, oI255, oI400, oI439, oI576, oI600, oI878, oI999, oI3951, oI4000, oI4390, oI9999, oIm1, oIm2, oIm4, oIm5, oIm6, oIm9, oIm99, lT2, lT3, lT8, lT9, lT99, lT9999, lTm1, lTm9, lTm99, lTm9999, lTc0, lTc1, iz_n, rem_n, div_n, af_d, kp_d, fin3, Value.ref.injEq, Sum.inr.injEq, Prod.mk.injEq, nI_m, nI_a, xinb_n, clamp_n, xc_lt, xc_le, xc_gt, xc_ge, xc_eq, xc_ne, xz_eq, xz_ne, xz_lt, xz_ge, xz_gt, xz_le, pk_sub, Nat.reduceSub, decide_true, decide_false, eq_self, Nat.add_sub_cancel, dt_lt, df_lt, dt_le, df_le, dt_eq, df_eq, iff_self, Bool.not_true, Bool.not_false, Bool.and_true, Bool.true_and, Bool.and_false, Bool.false_and, false_and, and_false, gA_eq, gA_ne, gA_1, gA_21, gA_222, gF_eq, gF_ne, gF_2, gW_1, gW_21, gW_22, gL_eq, gL_ne, gL_1, gL_21, gL_221, sA_sA, sF_sF, sW_sW, sL_sL, sA_sw, sF_sw, sL_sw, sF_sA, sF_sL, sA_sL, sF_sW, sA_sW, sL_sW, xupd_e2, xupd_ne, xupd_xupd]
    refine IC _ ?_
    simp (disch := first | omega | decide | rfl | (simp (disch := omega) only [gA_eq, gA_ne, gA_1, gA_21, gA_222, gF_eq, gF_ne, gF_2, gW_1, gW_21, gW_22, gL_eq, gL_ne, gL_1, gL_21, gL_221, xupd_ne, xupd_e2, rem164, not_false_eq_true, implies_true, *])) only [zPIc, zPBi, zPSi, zPLdc, zPLdcw, zPLd2, zPLc, zPNull, zPIn, zPI, zPLn, zPL, zPAn, zPA, zPStr, zPCs, zPU, zPB, zPBv, zPTn, zCIf, zCCm, zCNl, zCNot, zCAnd, zCOr, zOAdd, zOSub, zOMul, zOAnd, zOOr, zOXor, zOShl, zOShr, zOUshr, zODiv, zORem, zOAddL, zOSubL, zOMulL, zOAndL, zOXorL, zORemL, zOShlL, zOShrL, zOCmpL, zOIald, zOLald, zOZald, zOAald, zOI2l, zOL2i, zONeg, zONegL, zOGet, zOAlen, zOScrL, zOScr, zOSv, zOScd, zOBln, zOBld, zOI2c, zLIn, zLI, zLLn, zLL, zLAn, zLA, zQPut, zTI, zTL, zTZ, zTA, ↓yEP, ↓yEU, ↓yEB, ↓yDC, ↓yDIf, ↓yDCm, ↓zDNot, ↓zDAnd, ↓zDOr, ↓zEBv, ↓zETn, ↓zAN, ↓zAC, ↓yKV, ↓yKS, ↓yKX, ↓yKAc, ↓yEK, ↓yENew, ↓yENa, ↓zSNop, ↓zSSeq, ↓zSBrk, ↓zSCnt, ↓zSSB, ↓zSSC, ↓zSSc, ↓zSIf, ↓zSIfE, ↓zSIfR, ↓zSIfB, ↓zSIfC, ↓zSDead, ↓ySSt, ↓ySInc, ↓ySPut, ↓ySPutC, ↓ySAst, ↓ySAstC, ↓ySK, ↓ySKp, ↓zSRv, ↓ySR, ↓ySLp, ↓ySWh, ↓ySSw, ob_s, ob_n, gd_t, gd_f, okx_r, xai_i, li0, lis, ll0, lls, la0, la0n, la0r, las, xs1_0, xs1_1, xs1_s, xs2_0, xs2_1, xs2_s, xisl_i, xisl_r, xisl_n, xisl_a, xisl_j, xisl_l, si_0, si_1, si_s, sl_0, sl_1, sl_s, sa_0, sa_1, sa_s, inc_, ii_, iz_, ll_, lz_, lsh_, lc_, i2l_, l2i_, neg_, negl_, if_, cm_, nl_r, nl_n, rI_i, rI_l, rI_r, rI_n, rI_a, rv_v, rv_i, rv_l, rv_b, rv_b1, rv_b0, rv_r, rv_n, rv_a, cat_i, cat_l, cat_r, cat_n, cat_b, rI_b, if_b, bi_, si2_, Option.bind_some, Option.bind_none, Option.map_some, Option.some.injEq, exists_eq_left, exists_eq_left', List.getElem?_cons_zero, List.getElem?_cons_succ, List.length_cons, List.length_nil, ↓reduceIte, true_and, and_true, Fin.isValue, Fin.val_zero, Fin.val_one, Fin.val_two, Fin.reduceFinMk, reduceCtorEq, exists_const, Bool.false_eq_true, Nat.reduceAdd, Nat.zero_add, Nat.reduceMul, Nat.reduceLeDiff, Nat.le_refl, exists_and_left, List.set_cons_zero, List.set_cons_succ, okM, mg0, mp0, mg1, mp1, mg2, mg3, mg4, mg5, mg6, mp6, mg7, mg8, mg9, mg10, mg11, mg12, mp12, mg13, mg14, mp14, mg15, mg16, mg17, mg18, mg19, mg20, mp20, mg21, mg22, mg23, mp23, mg24, mp24, mg25, mp25, mg26, mp26, mg27, mp27, mg28, mp28, mg29, mg30, mg31, mg32, mp32, mg33, mp33, mg34, mg35, mg36, mg37, mp37, mg38, mp38, mg39, mp39, mg40, mg41, mg42, mg43, mg44, mp44, mg45, mp45, mg46, mg47, mp47, mg48, mg49, mg50, mp50, na163, nt163, na164, nt164, na165, nt165, na166, nt166, na167, nt167, na168, nt168, na169, nt169, na170, nt170, na171, nt171, na172, nt172, na173, nt173, na174, nt174, na175, nt175, na176, nt176, na177, nt177, na178, nt178, na179, nt179, na180, nt180, na181, nt181, na182, nt182, na183, nt183, na184, nt184, na185, nt185, na186, nt186, na187, nt187, na188, nt188, na189, nt189, na190, nt190, na191, nt191, mpZ, mcV, zb0, zb1, zb2, zb3, bI_ne, bI_eq, oI0, oI1, oI2, oI3, oI4, oI5, oI6, oI7, oI8, oI9, oI10, oI11, oI12, oI13, oI14, oI15, oI16, oI18, oI20, oI22, oI23, oI24, oI25, oI26, oI30, oI31, oI32, oI39, oI40, oI45, oI48, oI50, oI57, oI64, oI72, oI96, oI97, oI99, oI100, oI122, oI192, oI255, oI400, oI439, oI576, oI600, oI878, oI999, oI3951, oI4000, oI4390, oI9999, oIm1, oIm2, oIm4, oIm5, oIm6, oIm9, oIm99, lT2, lT3, lT8, lT9, lT99, lT9999, lTm1, lTm9, lTm99, lTm9999, lTc0, lTc1, iz_n, rem_n, div_n, af_d, kp_d, fin3, Value.ref.injEq, Sum.inr.injEq, Prod.mk.injEq, nI_m, nI_a, xinb_n, clamp_n, xc_lt, xc_le, xc_gt, xc_ge, xc_eq, xc_ne, xz_eq, xz_ne, xz_lt, xz_ge, xz_gt, xz_le, pk_sub, Nat.reduceSub, decide_true, decide_false, eq_self, Nat.add_sub_cancel, dt_lt, df_lt, dt_le, df_le, dt_eq, df_eq, iff_self, Bool.not_true, Bool.not_false, Bool.and_true, Bool.true_and, Bool.and_false, Bool.false_and, false_and, and_false, gA_eq, gA_ne, gA_1, gA_21, gA_222, gF_eq, gF_ne, gF_2, gW_1, gW_21, gW_22, gL_eq, gL_ne, gL_1, gL_21, gL_221, sA_sA, sF_sF, sW_sW, sL_sL, sA_sw, sF_sw, sL_sw, sF_sA, sF_sL, sA_sL, sF_sW, sA_sW, sL_sW, xupd_e2, xupd_ne, xupd_xupd]
    exact K
  · rw [decide_eq_false cm] at IC
    have n50 := hs.1
    refine (xM_iff (g := g_X12_addChar) (b := b_X12_addChar) [.ref 162, xjk] (Nat.le_of_ble_eq_true rfl) rfl).mpr ?_
    simp (disch := first | omega | decide | rfl | (simp (disch := omega) only [gA_eq, gA_ne, gA_1, gA_21, gA_222, gF_eq, gF_ne, gF_2, gW_1, gW_21, gW_22, gL_eq, gL_ne, gL_1, gL_21, gL_221, xupd_ne, xupd_e2, rem164, not_false_eq_true, implies_true, *])) only [b_X12_addChar, g_X12_addChar, zPIc, zPBi, zPSi, zPLdc, zPLdcw, zPLd2, zPLc, zPNull, zPIn, zPI, zPLn, zPL, zPAn, zPA, zPStr, zPCs, zPU, zPB, zPBv, zPTn, zCIf, zCCm, zCNl, zCNot, zCAnd, zCOr, zOAdd, zOSub, zOMul, zOAnd, zOOr, zOXor, zOShl, zOShr, zOUshr, zODiv, zORem, zOAddL, zOSubL, zOMulL, zOAndL, zOXorL, zORemL, zOShlL, zOShrL, zOCmpL, zOIald, zOLald, zOZald, zOAald, zOI2l, zOL2i, zONeg, zONegL, zOGet, zOAlen, zOScrL, zOScr, zOSv, zOScd, zOBln, zOBld, zOI2c, zLIn, zLI, zLLn, zLL, zLAn, zLA, zQPut, zTI, zTL, zTZ, zTA, ↓yEP, ↓yEU, ↓yEB, ↓yDC, ↓yDIf, ↓yDCm, ↓zDNot, ↓zDAnd, ↓zDOr, ↓zEBv, ↓zETn, ↓zAN, ↓zAC, ↓yKV, ↓yKS, ↓yKX, ↓yKAc, ↓yEK, ↓yENew, ↓yENa, ↓zSNop, ↓zSSeq, ↓zSBrk, ↓zSCnt, ↓zSSB, ↓zSSC, ↓zSSc, ↓zSIf, ↓zSIfE, ↓zSIfR, ↓zSIfB, ↓zSIfC, ↓zSDead, ↓ySSt, ↓ySInc, ↓ySPut, ↓ySPutC, ↓ySAst, ↓ySAstC, ↓ySK, ↓ySKp, ↓zSRv, ↓ySR, ↓ySLp, ↓ySWh, ↓ySSw, ob_s, ob_n, gd_t, gd_f, okx_r, xai_i, li0, lis, ll0, lls, la0, la0n, la0r, las, xs1_0, xs1_1, xs1_s, xs2_0, xs2_1, xs2_s, xisl_i, xisl_r, xisl_n, xisl_a, xisl_j, xisl_l, si_0, si_1, si_s, sl_0, sl_1, sl_s, sa_0, sa_1, sa_s, inc_, ii_, iz_, ll_, lz_, lsh_, lc_, i2l_, l2i_, neg_, negl_, if_, cm_, nl_r, nl_n, rI_i, rI_l, rI_r, rI_n, rI_a, rv_v, rv_i, rv_l, rv_b, rv_b1, rv_b0, rv_r, rv_n, rv_a, cat_i, cat_l, cat_r, cat_n, cat_b, rI_b, if_b, bi_, si2_, Option.bind_some, Option.bind_none, Option.map_some, Option.some.injEq, exists_eq_left, exists_eq_left', List.getElem?_cons_zero, List.getElem?_cons_succ, List.length_cons, List.length_nil, ↓reduceIte, true_and, and_true, Fin.isValue, Fin.val_zero, Fin.val_one, Fin.val_two, Fin.reduceFinMk, reduceCtorEq, exists_const, Bool.false_eq_true, Nat.reduceAdd, Nat.zero_add, Nat.reduceMul, Nat.reduceLeDiff, Nat.le_refl, exists_and_left, List.set_cons_zero, List.set_cons_succ, okM, mg0, mp0, mg1, mp1, mg2, mg3, mg4, mg5, mg6, mp6, mg7, mg8, mg9, mg10, mg11, mg12, mp12, mg13, mg14, mp14, mg15, mg16, mg17, mg18, mg19, mg20, mp20, mg21, mg22, mg23, mp23, mg24, mp24, mg25, mp25, mg26, mp26, mg27, mp27, mg28, mp28, mg29, mg30, mg31, mg32, mp32, mg33, mp33, mg34, mg35, mg36, mg37, mp37, mg38, mp38, mg39, mp39, mg40, mg41, mg42, mg43, mg44, mp44, mg45, mp45, mg46, mg47, mp47, mg48, mg49, mg50, mp50, na163, nt163, na164, nt164, na165, nt165, na166, nt166, na167, nt167, na168, nt168, na169, nt169, na170, nt170, na171, nt171, na172, nt172, na173, nt173, na174, nt174, na175, nt175, na176, nt176, na177, nt177, na178, nt178, na179, nt179, na180, nt180, na181, nt181, na182, nt182, na183, nt183, na184, nt184, na185, nt185, na186, nt186, na187, nt187, na188, nt188, na189, nt189, na190, nt190, na191, nt191, mpZ, mcV, zb0, zb1, zb2, zb3, bI_ne, bI_eq, oI0, oI1, oI2, oI3, oI4, oI5, oI6, oI7, oI8, oI9, oI10, oI11, oI12, oI13, oI14, oI15, oI16, oI18, oI20, oI22, oI23, oI24, oI25, oI26, oI30, oI31, oI32, oI39, oI40, oI45, oI48, oI50, oI57, oI64, oI72, oI96, oI97, oI99, oI100, oI122, oI192, oI255, oI400, oI439, oI576, oI600, oI878, oI999, oI3951, oI4000, oI4390, oI9999, oIm1, oIm2, oIm4, oIm5, oIm6, oIm9, oIm99, lT2, lT3, lT8, lT9, lT99, lT9999, lTm1, lTm9, lTm99, lTm9999, lTc0, lTc1, iz_n, rem_n, div_n, af_d, kp_d, fin3, Value.ref.injEq, Sum.inr.injEq, Prod.mk.injEq, nI_m, nI_a, xinb_n, clamp_n, xc_lt, xc_le, xc_gt, xc_ge, xc_eq, xc_ne, xz_eq, xz_ne, xz_lt, xz_ge, xz_gt, xz_le, pk_sub, Nat.reduceSub, decide_true, decide_false, eq_self, Nat.add_sub_cancel, dt_lt, df_lt, dt_le, df_le, dt_eq, df_eq, iff_self, Bool.not_true, Bool.not_false, Bool.and_true, Bool.true_and, Bool.and_false, Bool.false_and, false_and, and_false, gA_eq, gA_ne, gA_1, gA_21, gA_222, gF_eq, gF_ne, gF_2, gW_1, gW_21, gW_22, gL_eq, gL_ne, gL_1, gL_21, gL_221, sA_sA, sF_sF, sW_sW, sL_sL, sA_sw, sF_sw, sL_sw, sF_sA, sF_sL, sA_sL, sF_sW, sA_sW, sL_sW, xupd_e2, xupd_ne, xupd_xupd]
    refine IC _ ?_
    clear IC
    simp (disch := first | omega | decide | rfl | (simp (disch := omega) only [gA_eq, gA_ne, gA_1, gA_21, gA_222, gF_eq, gF_ne, gF_2, gW_1, gW_21, gW_22, gL_eq, gL_ne, gL_1, gL_21, gL_221, xupd_ne, xupd_e2, rem164, not_false_eq_true, implies_true, *])) only [zPIc, zPBi, zPSi, zPLdc, zPLdcw, zPLd2, zPLc, zPNull, zPIn, zPI, zPLn, zPL, zPAn, zPA, zPStr, zPCs, zPU, zPB, zPBv, zPTn, zCIf, zCCm, zCNl, zCNot, zCAnd, zCOr, zOAdd, zOSub, zOMul, zOAnd, zOOr, zOXor, zOShl, zOShr, zOUshr, zODiv, zORem, zOAddL, zOSubL, zOMulL, zOAndL, zOXorL, zORemL, zOShlL, zOShrL, zOCmpL, zOIald, zOLald, zOZald, zOAald, zOI2l, zOL2i, zONeg, zONegL, zOGet, zOAlen, zOScrL, zOScr, zOSv, zOScd, zOBln, zOBld, zOI2c, zLIn, zLI, zLLn, zLL, zLAn, zLA, zQPut, zTI, zTL, zTZ, zTA, ↓yEP, ↓yEU, ↓yEB, ↓yDC, ↓yDIf, ↓yDCm, ↓zDNot, ↓zDAnd, ↓zDOr, ↓zEBv, ↓zETn, ↓zAN, ↓zAC, ↓yKV, ↓yKS, ↓yKX, ↓yKAc, ↓yEK, ↓yENew, ↓yENa, ↓zSNop, ↓zSSeq, ↓zSBrk, ↓zSCnt, ↓zSSB, ↓zSSC, ↓zSSc, ↓zSIf, ↓zSIfE, ↓zSIfR, ↓zSIfB, ↓zSIfC, ↓zSDead, ↓ySSt, ↓ySInc, ↓ySPut, ↓ySPutC, ↓ySAst, ↓ySAstC, ↓ySK, ↓ySKp, ↓zSRv, ↓ySR, ↓ySLp, ↓ySWh, ↓ySSw, ob_s, ob_n, gd_t, gd_f, okx_r, xai_i, li0, lis, ll0, lls, la0, la0n, la0r, las, xs1_0, xs1_1, xs1_s, xs2_0, xs2_1, xs2_s, xisl_i, xisl_r, xisl_n, xisl_a, xisl_j, xisl_l, si_0, si_1, si_s, sl_0, sl_1, sl_s, sa_0, sa_1, sa_s, inc_, ii_, iz_, ll_, lz_, lsh_, lc_, i2l_, l2i_, neg_, negl_, if_, cm_, nl_r, nl_n, rI_i, rI_l, rI_r, rI_n, rI_a, rv_v, rv_i, rv_l, rv_b, rv_b1, rv_b0, rv_r, rv_n, rv_a, cat_i, cat_l, cat_r, cat_n, cat_b, rI_b, if_b, bi_, si2_, Option.bind_some, Option.bind_none, Option.map_some, Option.some.injEq, exists_eq_left, exists_eq_left', List.getElem?_cons_zero, List.getElem?_cons_succ, List.length_cons, List.length_nil, ↓reduceIte, true_and, and_true, Fin.isValue, Fin.val_zero, Fin.val_one, Fin.val_two, Fin.reduceFinMk, reduceCtorEq, exists_const, Bool.false_eq_true, Nat.reduceAdd, Nat.zero_add, Nat.reduceMul, Nat.reduceLeDiff, Nat.le_refl, exists_and_left, List.set_cons_zero, List.set_cons_succ, okM, mg0, mp0, mg1, mp1, mg2, mg3, mg4, mg5, mg6, mp6, mg7, mg8, mg9, mg10, mg11, mg12, mp12, mg13, mg14, mp14, mg15, mg16, mg17, mg18, mg19, mg20, mp20, mg21, mg22, mg23, mp23, mg24, mp24, mg25, mp25, mg26, mp26, mg27, mp27, mg28, mp28, mg29, mg30, mg31, mg32, mp32, mg33, mp33, mg34, mg35, mg36, mg37, mp37, mg38, mp38, mg39, mp39, mg40, mg41, mg42, mg43, mg44, mp44, mg45, mp45, mg46, mg47, mp47, mg48, mg49, mg50, mp50, na163, nt163, na164, nt164, na165, nt165, na166, nt166, na167, nt167, na168, nt168, na169, nt169, na170, nt170, na171, nt171, na172, nt172, na173, nt173, na174, nt174, na175, nt175, na176, nt176, na177, nt177, na178, nt178, na179, nt179, na180, nt180, na181, nt181, na182, nt182, na183, nt183, na184, nt184, na185, nt185, na186, nt186, na187, nt187, na188, nt188, na189, nt189, na190, nt190, na191, nt191, mpZ, mcV, zb0, zb1, zb2, zb3, bI_ne, bI_eq, oI0, oI1, oI2, oI3, oI4, oI5, oI6, oI7, oI8, oI9, oI10, oI11, oI12, oI13, oI14, oI15, oI16, oI18, oI20, oI22, oI23, oI24, oI25, oI26, oI30, oI31, oI32, oI39, oI40, oI45, oI48, oI50, oI57, oI64, oI72, oI96, oI97, oI99, oI100, oI122, oI192, oI255, oI400, oI439, oI576, oI600, oI878, oI999, oI3951, oI4000, oI4390, oI9999, oIm1, oIm2, oIm4, oIm5, oIm6, oIm9, oIm99, lT2, lT3, lT8, lT9, lT99, lT9999, lTm1, lTm9, lTm99, lTm9999, lTc0, lTc1, iz_n, rem_n, div_n, af_d, kp_d, fin3, Value.ref.injEq, Sum.inr.injEq, Prod.mk.injEq, nI_m, nI_a, xinb_n, clamp_n, xc_lt, xc_le, xc_gt, xc_ge, xc_eq, xc_ne, xz_eq, xz_ne, xz_lt, xz_ge, xz_gt, xz_le, pk_sub, Nat.reduceSub, decide_true, decide_false, eq_self, Nat.add_sub_cancel, dt_lt, df_lt, dt_le, df_le, dt_eq, df_eq, iff_self, Bool.not_true, Bool.not_false, Bool.and_true, Bool.true_and, Bool.and_false, Bool.false_and, false_and, and_false, gA_eq, gA_ne, gA_1, gA_21, gA_222, gF_eq, gF_ne, gF_2, gW_1, gW_21, gW_22, gL_eq, gL_ne, gL_1, gL_21, gL_221, sA_sA, sF_sF, sW_sW, sL_sL, sA_sw, sF_sw, sL_sw, sF_sA, sF_sL, sA_sL, sF_sW, sA_sW, sL_sW, xupd_e2, xupd_ne, xupd_xupd]
    refine lq_g (k := (0, 0)) (S := Nat × (Nat → Int32)) (fun s => s.1 ≤ szN r ∧ (∀ e, e < s.1 → s.2 (24 * l.length + e) = nI (pvN r w e)) ∧ ∀ j, j < 24 * l.length → s.2 j = σ.2.2.1 191 j) (fun s => szN r - s.1) (fun s => [.ref 162, .int (nI s.1)]) (fun s => mk h (sA σ 191 s.2)) (0, σ.2.2.1 191) rfl (by show mk h (sA σ 191 (σ.2.2.1 191)) = _; rw [sA_id]) ⟨Nat.zero_le _, fun e he => absurd he (Nat.not_lt_zero _), fun _ _ => rfl⟩ ?_
    rintro ⟨e, q⟩ P ⟨he, q1, q2⟩ hP
    dsimp only at he q1 q2 hP ⊢
    by_cases ce : e < szN r
    · have pe := hp e ce
      have go := hP (e + 1, xupd q (24 * l.length + e) (nI (pvN r w e))) ⟨ce, fun j hj => by
        have hj : j < e + 1 := hj
        show xupd q _ _ _ = _
        by_cases d : j = e
        · subst d; exact xupd_eq
        · rw [xupd_ne (by omega)]; exact q1 j (by omega), fun j hj => by
        show xupd q _ _ _ = _
        rw [xupd_ne (by omega)]; exact q2 j hj⟩ (by show szN r - (e + 1) < szN r - e; omega)
      clear hP q1 q2 K hs hp
      simp (disch := first | omega | decide | rfl | (simp (disch := omega) only [gA_eq, gA_ne, gA_1, gA_21, gA_222, gF_eq, gF_ne, gF_2, gW_1, gW_21, gW_22, gL_eq, gL_ne, gL_1, gL_21, gL_221, xupd_ne, xupd_e2, rem164, not_false_eq_true, implies_true, *])) only [zPIc, zPBi, zPSi, zPLdc, zPLdcw, zPLd2, zPLc, zPNull, zPIn, zPI, zPLn, zPL, zPAn, zPA, zPStr, zPCs, zPU, zPB, zPBv, zPTn, zCIf, zCCm, zCNl, zCNot, zCAnd, zCOr, zOAdd, zOSub, zOMul, zOAnd, zOOr, zOXor, zOShl, zOShr, zOUshr, zODiv, zORem, zOAddL, zOSubL, zOMulL, zOAndL, zOXorL, zORemL, zOShlL, zOShrL, zOCmpL, zOIald, zOLald, zOZald, zOAald, zOI2l, zOL2i, zONeg, zONegL, zOGet, zOAlen, zOScrL, zOScr, zOSv, zOScd, zOBln, zOBld, zOI2c, zLIn, zLI, zLLn, zLL, zLAn, zLA, zQPut, zTI, zTL, zTZ, zTA, ↓yEP, ↓yEU, ↓yEB, ↓yDC, ↓yDIf, ↓yDCm, ↓zDNot, ↓zDAnd, ↓zDOr, ↓zEBv, ↓zETn, ↓zAN, ↓zAC, ↓yKV, ↓yKS, ↓yKX, ↓yKAc, ↓yEK, ↓yENew, ↓yENa, ↓zSNop, ↓zSSeq, ↓zSBrk, ↓zSCnt, ↓zSSB, ↓zSSC, ↓zSSc, ↓zSIf, ↓zSIfE, ↓zSIfR, ↓zSIfB, ↓zSIfC, ↓zSDead, ↓ySSt, ↓ySInc, ↓ySPut, ↓ySPutC, ↓ySAst, ↓ySAstC, ↓ySK, ↓ySKp, ↓zSRv, ↓ySR, ↓ySLp, ↓ySWh, ↓ySSw, ob_s, ob_n, gd_t, gd_f, okx_r, xai_i, li0, lis, ll0, lls, la0, la0n, la0r, las, xs1_0, xs1_1, xs1_s, xs2_0, xs2_1, xs2_s, xisl_i, xisl_r, xisl_n, xisl_a, xisl_j, xisl_l, si_0, si_1, si_s, sl_0, sl_1, sl_s, sa_0, sa_1, sa_s, inc_, ii_, iz_, ll_, lz_, lsh_, lc_, i2l_, l2i_, neg_, negl_, if_, cm_, nl_r, nl_n, rI_i, rI_l, rI_r, rI_n, rI_a, rv_v, rv_i, rv_l, rv_b, rv_b1, rv_b0, rv_r, rv_n, rv_a, cat_i, cat_l, cat_r, cat_n, cat_b, rI_b, if_b, bi_, si2_, Option.bind_some, Option.bind_none, Option.map_some, Option.some.injEq, exists_eq_left, exists_eq_left', List.getElem?_cons_zero, List.getElem?_cons_succ, List.length_cons, List.length_nil, ↓reduceIte, true_and, and_true, Fin.isValue, Fin.val_zero, Fin.val_one, Fin.val_two, Fin.reduceFinMk, reduceCtorEq, exists_const, Bool.false_eq_true, Nat.reduceAdd, Nat.zero_add, Nat.reduceMul, Nat.reduceLeDiff, Nat.le_refl, exists_and_left, List.set_cons_zero, List.set_cons_succ, okM, mg0, mp0, mg1, mp1, mg2, mg3, mg4, mg5, mg6, mp6, mg7, mg8, mg9, mg10, mg11, mg12, mp12, mg13, mg14, mp14, mg15, mg16, mg17, mg18, mg19, mg20, mp20, mg21, mg22, mg23, mp23, mg24, mp24, mg25, mp25, mg26, mp26, mg27, mp27, mg28, mp28, mg29, mg30, mg31, mg32, mp32, mg33, mp33, mg34, mg35, mg36, mg37, mp37, mg38, mp38, mg39, mp39, mg40, mg41, mg42, mg43, mg44, mp44, mg45, mp45, mg46, mg47, mp47, mg48, mg49, mg50, mp50, na163, nt163, na164, nt164, na165, nt165, na166, nt166, na167, nt167, na168, nt168, na169, nt169, na170, nt170, na171, nt171, na172, nt172, na173, nt173, na174, nt174, na175, nt175, na176, nt176, na177, nt177, na178, nt178, na179, nt179, na180, nt180, na181, nt181, na182, nt182, na183, nt183, na184, nt184, na185, nt185, na186, nt186, na187, nt187, na188, nt188, na189, nt189, na190, nt190, na191, nt191, mpZ, mcV, zb0, zb1, zb2, zb3, bI_ne, bI_eq, oI0, oI1, oI2, oI3, oI4, oI5, oI6, oI7, oI8, oI9, oI10, oI11, oI12, oI13, oI14, oI15, oI16, oI18, oI20, oI22, oI23, oI24, oI25, oI26, oI30, oI31, oI32, oI39, oI40, oI45, oI48, oI50, oI57, oI64, oI72, oI96, oI97, oI99, oI100, oI122, oI192, oI255, oI400, oI439, oI576, oI600, oI878, oI999, oI3951, oI4000, oI4390, oI9999, oIm1, oIm2, oIm4, oIm5, oIm6, oIm9, oIm99, lT2, lT3, lT8, lT9, lT99, lT9999, lTm1, lTm9, lTm99, lTm9999, lTc0, lTc1, iz_n, rem_n, div_n, af_d, kp_d, fin3, Value.ref.injEq, Sum.inr.injEq, Prod.mk.injEq, nI_m, nI_a, xinb_n, clamp_n, xc_lt, xc_le, xc_gt, xc_ge, xc_eq, xc_ne, xz_eq, xz_ne, xz_lt, xz_ge, xz_gt, xz_le, pk_sub, Nat.reduceSub, decide_true, decide_false, eq_self, Nat.add_sub_cancel, dt_lt, df_lt, dt_le, df_le, dt_eq, df_eq, iff_self, Bool.not_true, Bool.not_false, Bool.and_true, Bool.true_and, Bool.and_false, Bool.false_and, false_and, and_false, gA_eq, gA_ne, gA_1, gA_21, gA_222, gF_eq, gF_ne, gF_2, gW_1, gW_21, gW_22, gL_eq, gL_ne, gL_1, gL_21, gL_221, sA_sA, sF_sF, sW_sW, sL_sL, sA_sw, sF_sw, sL_sw, sF_sA, sF_sL, sA_sL, sF_sW, sA_sW, sL_sW, xupd_e2, xupd_ne, xupd_xupd, gd, ce, pe, n50]
      exact go
    · have : e = szN r := by omega
      subst this
      clear hP
      have hg2 : rGp r nc (sA (sF σ 50 (nI (l.length + 1))) 191 q) := rGp_fr hg (fr_A (fr_F (fr_refl [50] [191] σ) rfl) rfl) rfl
      have f2 : fr [47, 50] [184, 189, 191] σ (sA (sF σ 50 (nI (l.length + 1))) 191 q) := fr_A (fr_F (fr_refl _ _ σ) rfl) rfl
      have hq : ∀ i e, i < (l ++ [w]).length → e < szN r → q (24 * i + e) = nI (pvN r ((l ++ [w]).getD i (0, 0, 0)) e) := by
        intro i e hi he
        rw [List.getD_eq_getElem?_getD]
        by_cases d : i < l.length
        · rw [q2 _ (by omega), hs.2.1 i e d he, List.getElem?_append_left d, List.getD_eq_getElem?_getD]
        · have : i = l.length := by simp at hi; omega
          subst this
          rw [q1 e he, List.getElem?_append_right (Nat.le_refl _), Nat.sub_self]
          rfl
      have el : (l ++ [w]).length = l.length + 1 := by simp
      have ea : adT w l = l ++ [w] := by rw [adT, if_neg cm]
      have et : tbF r (l ++ [w]) = tbS r (tbF r l) w := by rw [← ea, tbF_ad, if_neg cm]
      have pg := hp _ hgl
      have lg := hpl (glN r)
      have n47 := hs.2.2.1
      have t89 := hs.2.2.2
      rw [ea] at K
      by_cases cp : pvN r w (glN r) = 0
      · rw [tbS, if_pos cp] at et
        have K := K _ hg2 f2 ⟨by rw [gA_1, gF_eq, el], fun i e hi he => by rw [gA_eq]; exact hq i e hi he, by rw [et, gA_1, gF_ne _ _ (by decide)]; exact n47, by rw [et, gA_ne _ _ (by decide)]; exact t89⟩
        clear q1 q2 hq hs hp
        rw [cp] at pg
        simp (disch := first | omega | decide | rfl | (simp (disch := omega) only [gA_eq, gA_ne, gA_1, gA_21, gA_222, gF_eq, gF_ne, gF_2, gW_1, gW_21, gW_22, gL_eq, gL_ne, gL_1, gL_21, gL_221, xupd_ne, xupd_e2, rem164, not_false_eq_true, implies_true, *])) only [zPIc, zPBi, zPSi, zPLdc, zPLdcw, zPLd2, zPLc, zPNull, zPIn, zPI, zPLn, zPL, zPAn, zPA, zPStr, zPCs, zPU, zPB, zPBv, zPTn, zCIf, zCCm, zCNl, zCNot, zCAnd, zCOr, zOAdd, zOSub, zOMul, zOAnd, zOOr, zOXor, zOShl, zOShr, zOUshr, zODiv, zORem, zOAddL, zOSubL, zOMulL, zOAndL, zOXorL, zORemL, zOShlL, zOShrL, zOCmpL, zOIald, zOLald, zOZald, zOAald, zOI2l, zOL2i, zONeg, zONegL, zOGet, zOAlen, zOScrL, zOScr, zOSv, zOScd, zOBln, zOBld, zOI2c, zLIn, zLI, zLLn, zLL, zLAn, zLA, zQPut, zTI, zTL, zTZ, zTA, ↓yEP, ↓yEU, ↓yEB, ↓yDC, ↓yDIf, ↓yDCm, ↓zDNot, ↓zDAnd, ↓zDOr, ↓zEBv, ↓zETn, ↓zAN, ↓zAC, ↓yKV, ↓yKS, ↓yKX, ↓yKAc, ↓yEK, ↓yENew, ↓yENa, ↓zSNop, ↓zSSeq, ↓zSBrk, ↓zSCnt, ↓zSSB, ↓zSSC, ↓zSSc, ↓zSIf, ↓zSIfE, ↓zSIfR, ↓zSIfB, ↓zSIfC, ↓zSDead, ↓ySSt, ↓ySInc, ↓ySPut, ↓ySPutC, ↓ySAst, ↓ySAstC, ↓ySK, ↓ySKp, ↓zSRv, ↓ySR, ↓ySLp, ↓ySWh, ↓ySSw, ob_s, ob_n, gd_t, gd_f, okx_r, xai_i, li0, lis, ll0, lls, la0, la0n, la0r, las, xs1_0, xs1_1, xs1_s, xs2_0, xs2_1, xs2_s, xisl_i, xisl_r, xisl_n, xisl_a, xisl_j, xisl_l, si_0, si_1, si_s, sl_0, sl_1, sl_s, sa_0, sa_1, sa_s, inc_, ii_, iz_, ll_, lz_, lsh_, lc_, i2l_, l2i_, neg_, negl_, if_, cm_, nl_r, nl_n, rI_i, rI_l, rI_r, rI_n, rI_a, rv_v, rv_i, rv_l, rv_b, rv_b1, rv_b0, rv_r, rv_n, rv_a, cat_i, cat_l, cat_r, cat_n, cat_b, rI_b, if_b, bi_, si2_, Option.bind_some, Option.bind_none, Option.map_some, Option.some.injEq, exists_eq_left, exists_eq_left', List.getElem?_cons_zero, List.getElem?_cons_succ, List.length_cons, List.length_nil, ↓reduceIte, true_and, and_true, Fin.isValue, Fin.val_zero, Fin.val_one, Fin.val_two, Fin.reduceFinMk, reduceCtorEq, exists_const, Bool.false_eq_true, Nat.reduceAdd, Nat.zero_add, Nat.reduceMul, Nat.reduceLeDiff, Nat.le_refl, exists_and_left, List.set_cons_zero, List.set_cons_succ, okM, mg0, mp0, mg1, mp1, mg2, mg3, mg4, mg5, mg6, mp6, mg7, mg8, mg9, mg10, mg11, mg12, mp12, mg13, mg14, mp14, mg15, mg16, mg17, mg18, mg19, mg20, mp20, mg21, mg22, mg23, mp23, mg24, mp24, mg25, mp25, mg26, mp26, mg27, mp27, mg28, mp28, mg29, mg30, mg31, mg32, mp32, mg33, mp33, mg34, mg35, mg36, mg37, mp37, mg38, mp38, mg39, mp39, mg40, mg41, mg42, mg43, mg44, mp44, mg45, mp45, mg46, mg47, mp47, mg48, mg49, mg50, mp50, na163, nt163, na164, nt164, na165, nt165, na166, nt166, na167, nt167, na168, nt168, na169, nt169, na170, nt170, na171, nt171, na172, nt172, na173, nt173, na174, nt174, na175, nt175, na176, nt176, na177, nt177, na178, nt178, na179, nt179, na180, nt180, na181, nt181, na182, nt182, na183, nt183, na184, nt184, na185, nt185, na186, nt186, na187, nt187, na188, nt188, na189, nt189, na190, nt190, na191, nt191, mpZ, mcV, zb0, zb1, zb2, zb3, bI_ne, bI_eq, oI0, oI1, oI2, oI3, oI4, oI5, oI6, oI7, oI8, oI9, oI10, oI11, oI12, oI13, oI14, oI15, oI16, oI18, oI20, oI22, oI23, oI24, oI25, oI26, oI30, oI31, oI32, oI39, oI40, oI45, oI48, oI50, oI57, oI64, oI72, oI96, oI97, oI99, oI100, oI122, oI192, oI255, oI400, oI439, oI576, oI600, oI878, oI999, oI3951, oI4000, oI4390, oI9999, oIm1, oIm2, oIm4, oIm5, oIm6, oIm9, oIm99, lT2, lT3, lT8, lT9, lT99, lT9999, lTm1, lTm9, lTm99, lTm9999, lTc0, lTc1, iz_n, rem_n, div_n, af_d, kp_d, fin3, Value.ref.injEq, Sum.inr.injEq, Prod.mk.injEq, nI_m, nI_a, xinb_n, clamp_n, xc_lt, xc_le, xc_gt, xc_ge, xc_eq, xc_ne, xz_eq, xz_ne, xz_lt, xz_ge, xz_gt, xz_le, pk_sub, Nat.reduceSub, decide_true, decide_false, eq_self, Nat.add_sub_cancel, dt_lt, df_lt, dt_le, df_le, dt_eq, df_eq, iff_self, Bool.not_true, Bool.not_false, Bool.and_true, Bool.true_and, Bool.and_false, Bool.false_and, false_and, and_false, gA_eq, gA_ne, gA_1, gA_21, gA_222, gF_eq, gF_ne, gF_2, gW_1, gW_21, gW_22, gL_eq, gL_ne, gL_1, gL_21, gL_221, sA_sA, sF_sF, sW_sW, sL_sL, sA_sw, sF_sw, sL_sw, sF_sA, sF_sL, sA_sL, sF_sW, sA_sW, sL_sW, xupd_e2, xupd_ne, xupd_xupd, gd, n50, gg, pg]
        exact K
      · rw [tbS, if_neg cp] at et
        have cp' : 0 < pvN r w (glN r) := by omega
        clear q1 q2
        have h82 : ∀ e, e < szN r → (sA (sF σ 50 (nI (l.length + 1))) 191 q).2.2.1 182 e = nI (pvN r w e) := fun e he => by rw [gA_ne _ _ (by decide)]; exact hp e he
        have m47 : (sA (sF σ 50 (nI (l.length + 1))) 191 q).1 47 = nI (tbF r l).length := by rw [gA_1, gF_ne _ _ (by decide)]; exact n47
        have m50 : (sA (sF σ 50 (nI (l.length + 1))) 191 q).1 50 = nI (l.length + 1) := by rw [gA_1, gF_eq]
        have m89 : (sA (sF σ 50 (nI (l.length + 1))) 191 q).2.2.1 189 = σ.2.2.1 189 := by rw [gA_ne _ _ (by decide), gF_2]
        have m91 : (sA (sF σ 50 (nI (l.length + 1))) 191 q).2.2.1 191 = q := gA_eq _ _ _
        have hgd2 := hg2.2.1
        have hgg2 := hg2.2.2.1
        clear hs hp
        simp (disch := first | omega | decide | rfl | (simp (disch := omega) only [gA_eq, gA_ne, gA_1, gA_21, gA_222, gF_eq, gF_ne, gF_2, gW_1, gW_21, gW_22, gL_eq, gL_ne, gL_1, gL_21, gL_221, xupd_ne, xupd_e2, rem164, not_false_eq_true, implies_true, *])) only [zPIc, zPBi, zPSi, zPLdc, zPLdcw, zPLd2, zPLc, zPNull, zPIn, zPI, zPLn, zPL, zPAn, zPA, zPStr, zPCs, zPU, zPB, zPBv, zPTn, zCIf, zCCm, zCNl, zCNot, zCAnd, zCOr, zOAdd, zOSub, zOMul, zOAnd, zOOr, zOXor, zOShl, zOShr, zOUshr, zODiv, zORem, zOAddL, zOSubL, zOMulL, zOAndL, zOXorL, zORemL, zOShlL, zOShrL, zOCmpL, zOIald, zOLald, zOZald, zOAald, zOI2l, zOL2i, zONeg, zONegL, zOGet, zOAlen, zOScrL, zOScr, zOSv, zOScd, zOBln, zOBld, zOI2c, zLIn, zLI, zLLn, zLL, zLAn, zLA, zQPut, zTI, zTL, zTZ, zTA, ↓yEP, ↓yEU, ↓yEB, ↓yDC, ↓yDIf, ↓yDCm, ↓zDNot, ↓zDAnd, ↓zDOr, ↓zEBv, ↓zETn, ↓zAN, ↓zAC, ↓yKV, ↓yKS, ↓yKX, ↓yKAc, ↓yEK, ↓yENew, ↓yENa, ↓zSNop, ↓zSSeq, ↓zSBrk, ↓zSCnt, ↓zSSB, ↓zSSC, ↓zSSc, ↓zSIf, ↓zSIfE, ↓zSIfR, ↓zSIfB, ↓zSIfC, ↓zSDead, ↓ySSt, ↓ySInc, ↓ySPut, ↓ySPutC, ↓ySAst, ↓ySAstC, ↓ySK, ↓ySKp, ↓zSRv, ↓ySR, ↓ySLp, ↓ySWh, ↓ySSw, ob_s, ob_n, gd_t, gd_f, okx_r, xai_i, li0, lis, ll0, lls, la0, la0n, la0r, las, xs1_0, xs1_1, xs1_s, xs2_0, xs2_1, xs2_s, xisl_i, xisl_r, xisl_n, xisl_a, xisl_j, xisl_l, si_0, si_1, si_s, sl_0, sl_1, sl_s, sa_0, sa_1, sa_s, inc_, ii_, iz_, ll_, lz_, lsh_, lc_, i2l_, l2i_, neg_, negl_, if_, cm_, nl_r, nl_n, rI_i, rI_l, rI_r, rI_n, rI_a, rv_v, rv_i, rv_l, rv_b, rv_b1, rv_b0, rv_r, rv_n, rv_a, cat_i, cat_l, cat_r, cat_n, cat_b, rI_b, if_b, bi_, si2_, Option.bind_some, Option.bind_none, Option.map_some, Option.some.injEq, exists_eq_left, exists_eq_left', List.getElem?_cons_zero, List.getElem?_cons_succ, List.length_cons, List.length_nil, ↓reduceIte, true_and, and_true, Fin.isValue, Fin.val_zero, Fin.val_one, Fin.val_two, Fin.reduceFinMk, reduceCtorEq, exists_const, Bool.false_eq_true, Nat.reduceAdd, Nat.zero_add, Nat.reduceMul, Nat.reduceLeDiff, Nat.le_refl, exists_and_left, List.set_cons_zero, List.set_cons_succ, okM, mg0, mp0, mg1, mp1, mg2, mg3, mg4, mg5, mg6, mp6, mg7, mg8, mg9, mg10, mg11, mg12, mp12, mg13, mg14, mp14, mg15, mg16, mg17, mg18, mg19, mg20, mp20, mg21, mg22, mg23, mp23, mg24, mp24, mg25, mp25, mg26, mp26, mg27, mp27, mg28, mp28, mg29, mg30, mg31, mg32, mp32, mg33, mp33, mg34, mg35, mg36, mg37, mp37, mg38, mp38, mg39, mp39, mg40, mg41, mg42, mg43, mg44, mp44, mg45, mp45, mg46, mg47, mp47, mg48, mg49, mg50, mp50, na163, nt163, na164, nt164, na165, nt165, na166, nt166, na167, nt167, na168, nt168, na169, nt169, na170, nt170, na171, nt171, na172, nt172, na173, nt173, na174, nt174, na175, nt175, na176, nt176, na177, nt177, na178, nt178, na179, nt179, na180, nt180, na181, nt181, na182, nt182, na183, nt183, na184, nt184, na185, nt185, na186, nt186, na187, nt187, na188, nt188, na189, nt189, na190, nt190, na191, nt191, mpZ, mcV, zb0, zb1, zb2, zb3, bI_ne, bI_eq, oI0, oI1, oI2, oI3, oI4, oI5, oI6, oI7, oI8, oI9, oI10, oI11, oI12, oI13, oI14, oI15, oI16, oI18, oI20, oI22, oI23, oI24, oI25, oI26, oI30, oI31, oI32, oI39, oI40, oI45, oI48, oI50, oI57, oI64, oI72, oI96, oI97, oI99, oI100, oI122, oI192, oI255, oI400, oI439, oI576, oI600, oI878, oI999, oI3951, oI4000, oI4390, oI9999, oIm1, oIm2, oIm4, oIm5, oIm6, oIm9, oIm99, lT2, lT3, lT8, lT9, lT99, lT9999, lTm1, lTm9, lTm99, lTm9999, lTc0, lTc1, iz_n, rem_n, div_n, af_d, kp_d, fin3, Value.ref.injEq, Sum.inr.injEq, Prod.mk.injEq, nI_m, nI_a, xinb_n, clamp_n, xc_lt, xc_le, xc_gt, xc_ge, xc_eq, xc_ne, xz_eq, xz_ne, xz_lt, xz_ge, xz_gt, xz_le, pk_sub, Nat.reduceSub, decide_true, decide_false, eq_self, Nat.add_sub_cancel, dt_lt, df_lt, dt_le, df_le, dt_eq, df_eq, iff_self, Bool.not_true, Bool.not_false, Bool.and_true, Bool.true_and, Bool.and_false, Bool.false_and, false_and, and_false, gA_eq, gA_ne, gA_1, gA_21, gA_222, gF_eq, gF_ne, gF_2, gW_1, gW_21, gW_22, gL_eq, gL_ne, gL_1, gL_21, gL_221, sA_sA, sF_sF, sW_sW, sL_sL, sA_sw, sF_sw, sL_sw, sF_sA, sF_sL, sA_sL, sF_sW, sA_sW, sL_sW, xupd_e2, xupd_ne, xupd_xupd, gd, n50, gg, pg, cp']
        generalize sA (sF σ 50 (nI (l.length + 1))) 191 q = τ at *
        refine p_layGmi (t := 1) (p := pvN r w) hgd2 hgg2 h0 hD hgl (by omega) h82 (fun e _ => hpl e) (fun f hf => ?_)
        have gb : ∀ e, gmC r w e ≤ 576 := fun e => gmN_le h0 hD
        simp (disch := first | omega | decide | rfl | (simp (disch := omega) only [gA_eq, gA_ne, gA_1, gA_21, gA_222, gF_eq, gF_ne, gF_2, gW_1, gW_21, gW_22, gL_eq, gL_ne, gL_1, gL_21, gL_221, xupd_ne, xupd_e2, rem164, not_false_eq_true, implies_true, *])) only [zPIc, zPBi, zPSi, zPLdc, zPLdcw, zPLd2, zPLc, zPNull, zPIn, zPI, zPLn, zPL, zPAn, zPA, zPStr, zPCs, zPU, zPB, zPBv, zPTn, zCIf, zCCm, zCNl, zCNot, zCAnd, zCOr, zOAdd, zOSub, zOMul, zOAnd, zOOr, zOXor, zOShl, zOShr, zOUshr, zODiv, zORem, zOAddL, zOSubL, zOMulL, zOAndL, zOXorL, zORemL, zOShlL, zOShrL, zOCmpL, zOIald, zOLald, zOZald, zOAald, zOI2l, zOL2i, zONeg, zONegL, zOGet, zOAlen, zOScrL, zOScr, zOSv, zOScd, zOBln, zOBld, zOI2c, zLIn, zLI, zLLn, zLL, zLAn, zLA, zQPut, zTI, zTL, zTZ, zTA, ↓yEP, ↓yEU, ↓yEB, ↓yDC, ↓yDIf, ↓yDCm, ↓zDNot, ↓zDAnd, ↓zDOr, ↓zEBv, ↓zETn, ↓zAN, ↓zAC, ↓yKV, ↓yKS, ↓yKX, ↓yKAc, ↓yEK, ↓yENew, ↓yENa, ↓zSNop, ↓zSSeq, ↓zSBrk, ↓zSCnt, ↓zSSB, ↓zSSC, ↓zSSc, ↓zSIf, ↓zSIfE, ↓zSIfR, ↓zSIfB, ↓zSIfC, ↓zSDead, ↓ySSt, ↓ySInc, ↓ySPut, ↓ySPutC, ↓ySAst, ↓ySAstC, ↓ySK, ↓ySKp, ↓zSRv, ↓ySR, ↓ySLp, ↓ySWh, ↓ySSw, ob_s, ob_n, gd_t, gd_f, okx_r, xai_i, li0, lis, ll0, lls, la0, la0n, la0r, las, xs1_0, xs1_1, xs1_s, xs2_0, xs2_1, xs2_s, xisl_i, xisl_r, xisl_n, xisl_a, xisl_j, xisl_l, si_0, si_1, si_s, sl_0, sl_1, sl_s, sa_0, sa_1, sa_s, inc_, ii_, iz_, ll_, lz_, lsh_, lc_, i2l_, l2i_, neg_, negl_, if_, cm_, nl_r, nl_n, rI_i, rI_l, rI_r, rI_n, rI_a, rv_v, rv_i, rv_l, rv_b, rv_b1, rv_b0, rv_r, rv_n, rv_a, cat_i, cat_l, cat_r, cat_n, cat_b, rI_b, if_b, bi_, si2_, Option.bind_some, Option.bind_none, Option.map_some, Option.some.injEq, exists_eq_left, exists_eq_left', List.getElem?_cons_zero, List.getElem?_cons_succ, List.length_cons, List.length_nil, ↓reduceIte, true_and, and_true, Fin.isValue, Fin.val_zero, Fin.val_one, Fin.val_two, Fin.reduceFinMk, reduceCtorEq, exists_const, Bool.false_eq_true, Nat.reduceAdd, Nat.zero_add, Nat.reduceMul, Nat.reduceLeDiff, Nat.le_refl, exists_and_left, List.set_cons_zero, List.set_cons_succ, okM, mg0, mp0, mg1, mp1, mg2, mg3, mg4, mg5, mg6, mp6, mg7, mg8, mg9, mg10, mg11, mg12, mp12, mg13, mg14, mp14, mg15, mg16, mg17, mg18, mg19, mg20, mp20, mg21, mg22, mg23, mp23, mg24, mp24, mg25, mp25, mg26, mp26, mg27, mp27, mg28, mp28, mg29, mg30, mg31, mg32, mp32, mg33, mp33, mg34, mg35, mg36, mg37, mp37, mg38, mp38, mg39, mp39, mg40, mg41, mg42, mg43, mg44, mp44, mg45, mp45, mg46, mg47, mp47, mg48, mg49, mg50, mp50, na163, nt163, na164, nt164, na165, nt165, na166, nt166, na167, nt167, na168, nt168, na169, nt169, na170, nt170, na171, nt171, na172, nt172, na173, nt173, na174, nt174, na175, nt175, na176, nt176, na177, nt177, na178, nt178, na179, nt179, na180, nt180, na181, nt181, na182, nt182, na183, nt183, na184, nt184, na185, nt185, na186, nt186, na187, nt187, na188, nt188, na189, nt189, na190, nt190, na191, nt191, mpZ, mcV, zb0, zb1, zb2, zb3, bI_ne, bI_eq, oI0, oI1, oI2, oI3, oI4, oI5, oI6, oI7, oI8, oI9, oI10, oI11, oI12, oI13, oI14, oI15, oI16, oI18, oI20, oI22, oI23, oI24, oI25, oI26, oI30, oI31, oI32, oI39, oI40, oI45, oI48, oI50, oI57, oI64, oI72, oI96, oI97, oI99, oI100, oI122, oI192, oI255, oI400, oI439, oI576, oI600, oI878, oI999, oI3951, oI4000, oI4390, oI9999, oIm1, oIm2, oIm4, oIm5, oIm6, oIm9, oIm99, lT2, lT3, lT8, lT9, lT99, lT9999, lTm1, lTm9, lTm99, lTm9999, lTc0, lTc1, iz_n, rem_n, div_n, af_d, kp_d, fin3, Value.ref.injEq, Sum.inr.injEq, Prod.mk.injEq, nI_m, nI_a, xinb_n, clamp_n, xc_lt, xc_le, xc_gt, xc_ge, xc_eq, xc_ne, xz_eq, xz_ne, xz_lt, xz_ge, xz_gt, xz_le, pk_sub, Nat.reduceSub, decide_true, decide_false, eq_self, Nat.add_sub_cancel, dt_lt, df_lt, dt_le, df_le, dt_eq, df_eq, iff_self, Bool.not_true, Bool.not_false, Bool.and_true, Bool.true_and, Bool.and_false, Bool.false_and, false_and, and_false, gA_eq, gA_ne, gA_1, gA_21, gA_222, gF_eq, gF_ne, gF_2, gW_1, gW_21, gW_22, gL_eq, gL_ne, gL_1, gL_21, gL_221, sA_sA, sF_sF, sW_sW, sL_sL, sA_sw, sF_sw, sL_sw, sF_sA, sF_sL, sA_sL, sF_sW, sA_sW, sL_sW, xupd_e2, xupd_ne, xupd_xupd]
        refine p_addFunction (σ := sA τ 184 f) (l := tbF r l) (w := gmC r w) hgd2 hD m47 (by omega) (by rw [gA_ne _ _ (by decide), m89]; exact t89) (fun e he => by rw [gA_eq]; exact hf e he) (fun e _ => by have := gb e; omega) (gcC_pos hb h0 cp) (fun σ3 f3 t3 n3 => ?_)
        have f4 : fr [47, 50] [184, 189, 191] σ σ3 := fr_T (fr_A (a := 184) (f := f) f2 rfl) f3 rfl rfl
        have hg3 : rGp r nc σ3 := rGp_fr (rGp_fr hg2 (fr_A (fr_refl [] [184] τ) rfl) rfl) f3 rfl
        have K := K σ3 hg3 f4 ⟨by rw [f3.1 50 (by decide), el]; exact m50, fun i e hi he => by rw [f3.2.1 191 (by decide), gA_ne _ _ (by decide), m91]; exact hq i e hi he, by rw [et]; exact n3, by rw [et]; exact t3⟩
        simp (disch := first | omega | decide | rfl | (simp (disch := omega) only [gA_eq, gA_ne, gA_1, gA_21, gA_222, gF_eq, gF_ne, gF_2, gW_1, gW_21, gW_22, gL_eq, gL_ne, gL_1, gL_21, gL_221, xupd_ne, xupd_e2, rem164, not_false_eq_true, implies_true, *])) only [zPIc, zPBi, zPSi, zPLdc, zPLdcw, zPLd2, zPLc, zPNull, zPIn, zPI, zPLn, zPL, zPAn, zPA, zPStr, zPCs, zPU, zPB, zPBv, zPTn, zCIf, zCCm, zCNl, zCNot, zCAnd, zCOr, zOAdd, zOSub, zOMul, zOAnd, zOOr, zOXor, zOShl, zOShr, zOUshr, zODiv, zORem, zOAddL, zOSubL, zOMulL, zOAndL, zOXorL, zORemL, zOShlL, zOShrL, zOCmpL, zOIald, zOLald, zOZald, zOAald, zOI2l, zOL2i, zONeg, zONegL, zOGet, zOAlen, zOScrL, zOScr, zOSv, zOScd, zOBln, zOBld, zOI2c, zLIn, zLI, zLLn, zLL, zLAn, zLA, zQPut, zTI, zTL, zTZ, zTA, ↓yEP, ↓yEU, ↓yEB, ↓yDC, ↓yDIf, ↓yDCm, ↓zDNot, ↓zDAnd, ↓zDOr, ↓zEBv, ↓zETn, ↓zAN, ↓zAC, ↓yKV, ↓yKS, ↓yKX, ↓yKAc, ↓yEK, ↓yENew, ↓yENa, ↓zSNop, ↓zSSeq, ↓zSBrk, ↓zSCnt, ↓zSSB, ↓zSSC, ↓zSSc, ↓zSIf, ↓zSIfE, ↓zSIfR, ↓zSIfB, ↓zSIfC, ↓zSDead, ↓ySSt, ↓ySInc, ↓ySPut, ↓ySPutC, ↓ySAst, ↓ySAstC, ↓ySK, ↓ySKp, ↓zSRv, ↓ySR, ↓ySLp, ↓ySWh, ↓ySSw, ob_s, ob_n, gd_t, gd_f, okx_r, xai_i, li0, lis, ll0, lls, la0, la0n, la0r, las, xs1_0, xs1_1, xs1_s, xs2_0, xs2_1, xs2_s, xisl_i, xisl_r, xisl_n, xisl_a, xisl_j, xisl_l, si_0, si_1, si_s, sl_0, sl_1, sl_s, sa_0, sa_1, sa_s, inc_, ii_, iz_, ll_, lz_, lsh_, lc_, i2l_, l2i_, neg_, negl_, if_, cm_, nl_r, nl_n, rI_i, rI_l, rI_r, rI_n, rI_a, rv_v, rv_i, rv_l, rv_b, rv_b1, rv_b0, rv_r, rv_n, rv_a, cat_i, cat_l, cat_r, cat_n, cat_b, rI_b, if_b, bi_, si2_, Option.bind_some, Option.bind_none, Option.map_some, Option.some.injEq, exists_eq_left, exists_eq_left', List.getElem?_cons_zero, List.getElem?_cons_succ, List.length_cons, List.length_nil, ↓reduceIte, true_and, and_true, Fin.isValue, Fin.val_zero, Fin.val_one, Fin.val_two, Fin.reduceFinMk, reduceCtorEq, exists_const, Bool.false_eq_true, Nat.reduceAdd, Nat.zero_add, Nat.reduceMul, Nat.reduceLeDiff, Nat.le_refl, exists_and_left, List.set_cons_zero, List.set_cons_succ, okM, mg0, mp0, mg1, mp1, mg2, mg3, mg4, mg5, mg6, mp6, mg7, mg8, mg9, mg10, mg11, mg12, mp12, mg13, mg14, mp14, mg15, mg16, mg17, mg18, mg19, mg20, mp20, mg21, mg22, mg23, mp23, mg24, mp24, mg25, mp25, mg26, mp26, mg27, mp27, mg28, mp28, mg29, mg30, mg31, mg32, mp32, mg33, mp33, mg34, mg35, mg36, mg37, mp37, mg38, mp38, mg39, mp39, mg40, mg41, mg42, mg43, mg44, mp44, mg45, mp45, mg46, mg47, mp47, mg48, mg49, mg50, mp50, na163, nt163, na164, nt164, na165, nt165, na166, nt166, na167, nt167, na168, nt168, na169, nt169, na170, nt170, na171, nt171, na172, nt172, na173, nt173, na174, nt174, na175, nt175, na176, nt176, na177, nt177, na178, nt178, na179, nt179, na180, nt180, na181, nt181, na182, nt182, na183, nt183, na184, nt184, na185, nt185, na186, nt186, na187, nt187, na188, nt188, na189, nt189, na190, nt190, na191, nt191, mpZ, mcV, zb0, zb1, zb2, zb3, bI_ne, bI_eq, oI0, oI1, oI2, oI3, oI4, oI5, oI6, oI7, oI8, oI9, oI10, oI11, oI12, oI13, oI14, oI15, oI16, oI18, oI20, oI22, oI23, oI24, oI25, oI26, oI30, oI31, oI32, oI39, oI40, oI45, oI48, oI50, oI57, oI64, oI72, oI96, oI97, oI99, oI100, oI122, oI192, oI255, oI400, oI439, oI576, oI600, oI878, oI999, oI3951, oI4000, oI4390, oI9999, oIm1, oIm2, oIm4, oIm5, oIm6, oIm9, oIm99, lT2, lT3, lT8, lT9, lT99, lT9999, lTm1, lTm9, lTm99, lTm9999, lTc0, lTc1, iz_n, rem_n, div_n, af_d, kp_d, fin3, Value.ref.injEq, Sum.inr.injEq, Prod.mk.injEq, nI_m, nI_a, xinb_n, clamp_n, xc_lt, xc_le, xc_gt, xc_ge, xc_eq, xc_ne, xz_eq, xz_ne, xz_lt, xz_ge, xz_gt, xz_le, pk_sub, Nat.reduceSub, decide_true, decide_false, eq_self, Nat.add_sub_cancel, dt_lt, df_lt, dt_le, df_le, dt_eq, df_eq, iff_self, Bool.not_true, Bool.not_false, Bool.and_true, Bool.true_and, Bool.and_false, Bool.false_and, false_and, and_false, gA_eq, gA_ne, gA_1, gA_21, gA_222, gF_eq, gF_ne, gF_2, gW_1, gW_21, gW_22, gL_eq, gL_ne, gL_1, gL_21, gL_221, sA_sA, sF_sF, sW_sW, sL_sL, sA_sw, sF_sw, sL_sw, sF_sA, sF_sL, sA_sL, sF_sW, sA_sW, sL_sW, xupd_e2, xupd_ne, xupd_xupd]
        exact K
