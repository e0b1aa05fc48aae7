/-! the reference's group -/
def sNr (r : Nat → Int32) (e o : Nat) : Nat := gS (gA r) (gB r) (gC r) (gP r) (gQ r) (gR r) e o
def elN (r : Nat → Int32) (x y z : Int) : Nat := gN (gA r) (gB r) (gC r) (gP r) (gQ r) (gR r) x y z
def glN (r : Nat → Int32) : Nat := elN r (r 12).toInt (r 13).toInt (r 14).toInt
def mdN (r : Nat → Int32) (c : Nat) : Nat := elN r (r (15 + 4 * c)).toInt (r (15 + 4 * c + 1)).toInt (r (15 + 4 * c + 2)).toInt
def lrN (r : Nat → Int32) (e i : Nat) : Nat := if i = 0 then l0 (gB r) (gC r) e else if i = 1 then l1 (gB r) (gC r) e else l2 (gC r) e
def rwOK (r : Nat → Int32) (nc : Nat) : Prop := bsOK r ∧ (∀ i, i < 3 → (r (12 + i)).toInt.natAbs ≤ 99) ∧ r 1 = nI nc ∧ nc ≤ 6 ∧ (∀ c i, c < nc → i < 3 → (r (15 + 4 * c + i)).toInt.natAbs ≤ 99)
/-- what may have changed: fields, arrays -/
def fr (ks as : List Nat) (σ σ' : MS) : Prop := (∀ k, k ∉ ks → σ'.1 k = σ.1 k) ∧ (∀ a, a ∉ as → σ'.2.2.1 a = σ.2.2.1 a) ∧ (∀ a, a ∉ as → σ'.2.2.2 a = σ.2.2.2 a)
theorem fr_refl (ks as : List Nat) (σ : MS) : fr ks as σ σ := ⟨fun _ _ => rfl, fun _ _ => rfl, fun _ _ => rfl⟩
theorem fr_trans {ks as ks' as' ks2 as2 : List Nat} {σ σ' σ2 : MS} (h1 : fr ks as σ σ') (h2 : fr ks' as' σ' σ2) (hk : (ks.all fun k => ks2.contains k) = true) (ha : (as.all fun k => as2.contains k) = true) (hk' : (ks'.all fun k => ks2.contains k) = true) (ha' : (as'.all fun k => as2.contains k) = true) : fr ks2 as2 σ σ2 := by
  simp only [List.all_eq_true, List.contains_iff_mem] at hk ha hk' ha'
  exact ⟨fun k hn => (h2.1 k (fun z => hn (hk' k z))).trans (h1.1 k (fun z => hn (hk k z))), fun k hn => (h2.2.1 k (fun z => hn (ha' k z))).trans (h1.2.1 k (fun z => hn (ha k z))), fun k hn => (h2.2.2 k (fun z => hn (ha' k z))).trans (h1.2.2 k (fun z => hn (ha k z)))⟩
theorem fr_mono {ks as ks2 as2 : List Nat} {σ σ' : MS} (h1 : fr ks as σ σ') (hk : (ks.all fun k => ks2.contains k) = true) (ha : (as.all fun k => as2.contains k) = true) : fr ks2 as2 σ σ' := fr_trans h1 (fr_refl [] [] σ') hk ha rfl rfl
theorem fr_sF (σ : MS) (k : Nat) (x : Int32) : fr [k] [] σ (sF σ k x) := ⟨fun j hj => xupd_ne (by simpa using hj), fun _ _ => rfl, fun _ _ => rfl⟩
theorem fr_sW (σ : MS) (x : Int64) : fr [] [] σ (sW σ x) := ⟨fun _ _ => rfl, fun _ _ => rfl, fun _ _ => rfl⟩
theorem fr_sA (σ : MS) (a : Nat) (f : Nat → Int32) : fr [] [a] σ (sA σ a f) := ⟨fun _ _ => rfl, fun j hj => xupd_ne (by simpa using hj), fun _ _ => rfl⟩
theorem fr_sL (σ : MS) (a : Nat) (f : Nat → Int64) : fr [] [a] σ (sL σ a f) := ⟨fun _ _ => rfl, fun _ _ => rfl, fun j hj => xupd_ne (by simpa using hj)⟩
/-- the state holds the group -/
def rGp (r : Nat → Int32) (nc : Nat) (σ : MS) : Prop := σ.2.2.1 164 = r ∧ σ.1 12 = nI (szN r) ∧ σ.1 14 = nI (glN r) ∧ (∀ k, k < 9 → σ.2.2.1 169 k = hmR r k) ∧ (∀ e i, e < szN r → i < 3 → σ.2.2.1 170 (3 * e + i) = nI (lrN r e i)) ∧ (∀ e o, e < szN r → o < szN r → σ.2.2.1 171 (24 * e + o) = nI (sNr r e o)) ∧ (∀ c, c < nc → σ.2.2.1 173 c = nI (mdN r c))
theorem el_r {r hh v : Nat → Int32} (hb : bsOK r) (h0 : 0 < szN r) (hh9 : ∀ k, k < 9 → hh k = hmR r k) (hv : ∀ i, i < 3 → (v i).toInt.natAbs ≤ 20000) : elI hh (elA hh 3 v) = nI (elN r (v 0).toInt (v 1).toInt (v 2).toInt) := by
  obtain ⟨⟨e0, e3, e4, e6, e7, e8⟩, -, ⟨ha, hb', hc⟩, -, ⟨ha2, hb2, hc2⟩, hp, hq, hr, -⟩ := hm_ok hb h0
  exact el_ok ((hh9 0 (by omega)).trans e0) ((hh9 3 (by omega)).trans e3) ((hh9 4 (by omega)).trans e4) ((hh9 6 (by omega)).trans e6) ((hh9 7 (by omega)).trans e7) ((hh9 8 (by omega)).trans e8) ha hb' hc ha2 hb2 hc2 hp hq hr hv
theorem lrA_ok (b c : Nat) (f : Nat → Int32) : ∀ n e, e < n → lrA b c n f (3 * e) = nI (l0 b c e) ∧ lrA b c n f (3 * e + 1) = nI (l1 b c e) ∧ lrA b c n f (3 * e + 2) = nI (l2 c e) := by
  intro n
  induction n with
  | zero => intro e he; omega
  | succ n ih =>
    intro e he
    rw [lrA_s]
    by_cases c1 : e = n
    · subst c1
      refine ⟨xupd_e2 _ _ rfl, ?_, ?_⟩
      · rw [xupd_ne (by omega), xupd_e2 _ _ rfl]; rfl
      · rw [xupd_ne (by omega), xupd_ne (by omega), xupd_e2 _ _ rfl]; rfl
    · obtain ⟨h1, h2, h3⟩ := ih e (by omega)
      refine ⟨?_, ?_, ?_⟩
      · rw [xupd_ne (by omega), xupd_ne (by omega), xupd_ne (by omega), h1]
      · rw [xupd_ne (by omega), xupd_ne (by omega), xupd_ne (by omega), h2]
      · rw [xupd_ne (by omega), xupd_ne (by omega), xupd_ne (by omega), h3]
theorem lrA_i {r : Nat → Int32} {n e i : Nat} (f : Nat → Int32) (he : e < n) (hi : i < 3) : lrA (gB r) (gC r) n f (3 * e + i) = nI (lrN r e i) := by
  obtain ⟨h1, h2, h3⟩ := lrA_ok (gB r) (gC r) f n e he
  have hc : i = 0 ∨ i = 1 ∨ i = 2 := by omega
  rcases hc with rfl | rfl | rfl
  · exact h1
  · exact h2
  · exact h3
theorem lrN_lt {r : Nat → Int32} (hb : bsOK r) (h0 : 0 < szN r) {e i : Nat} (he : e < szN r) : lrN r e i < 24 := by
  obtain ⟨-, -, ⟨ha, hb', hc⟩, hm, ⟨ha2, hb2, hc2⟩, -⟩ := hm_ok hb h0
  rw [← hm] at he
  obtain ⟨h1, h2, h3⟩ := l_lt hb' hc he
  rw [lrN]
  split
  · omega
  · split <;> omega
theorem svA_i (lr : Nat → Int32) (e o : Nat) (v : Nat → Int32) {i : Nat} (hi : i < 3) : svA lr e o 3 v i = lr (3 * e + i) + lr (3 * o + i) := by
  have hc : i = 0 ∨ i = 1 ∨ i = 2 := by omega
  rcases hc with rfl | rfl | rfl <;> rfl
theorem sum_el {r hh lr v : Nat → Int32} {e o : Nat} (hb : bsOK r) (h0 : 0 < szN r) (hh9 : ∀ k, k < 9 → hh k = hmR r k) (hl : ∀ e i, e < szN r → i < 3 → lr (3 * e + i) = nI (lrN r e i)) (he : e < szN r) (ho : o < szN r) : elI hh (elA hh 3 (svA lr e o 3 v)) = nI (sNr r e o) := by
  have hv : ∀ i, i < 3 → (svA lr e o 3 v i).toInt = ((lrN r e i + lrN r o i : Nat) : Int) := by
    intro i hi
    have h1 := lrN_lt hb h0 (i := i) he
    have h2 := lrN_lt hb h0 (i := i) ho
    rw [svA_i _ _ _ _ hi, hl e i he hi, hl o i ho hi, nI_a, nI_toInt (by omega)]
  rw [el_r hb h0 hh9 (fun i hi => by
    have h1 := lrN_lt hb h0 (i := i) he
    have h2 := lrN_lt hb h0 (i := i) ho
    rw [hv i hi]; omega), hv 0 (by omega), hv 1 (by omega), hv 2 (by omega)]
  rfl
theorem smI_ok {r hh lr : Nat → Int32} {e D : Nat} (hsum : ∀ v o, o < D → elI hh (elA hh 3 (svA lr e o 3 v)) = nI (sNr r e o)) (p : (Nat → Int32) × (Nat → Int32)) : ∀ n, n ≤ D → (∀ o, o < n → (smI hh lr e n p).2 (24 * e + o) = nI (sNr r e o)) ∧ (∀ k, k < 24 * e → (smI hh lr e n p).2 k = p.2 k) := by
  intro n
  induction n with
  | zero => exact fun _ => ⟨fun o ho => by omega, fun _ _ => rfl⟩
  | succ n ih =>
    intro hn
    obtain ⟨h1, h2⟩ := ih (by omega)
    rw [smI_s]
    dsimp only
    refine ⟨fun o ho => ?_, fun k hk => ?_⟩
    · by_cases c : o = n
      · subst c; rw [xupd_e2 _ _ rfl]; exact hsum _ o (by omega)
      · rw [xupd_ne (by omega)]; exact h1 o (by omega)
    · rw [xupd_ne (by omega)]; exact h2 k hk
theorem smA_ok {r hh lr : Nat → Int32} {D : Nat} (hD : D ≤ 24) (hsum : ∀ v e o, e < D → o < D → elI hh (elA hh 3 (svA lr e o 3 v)) = nI (sNr r e o)) (p : (Nat → Int32) × (Nat → Int32)) : ∀ n, n ≤ D → ∀ e o, e < n → o < D → (smA hh lr D n p).2 (24 * e + o) = nI (sNr r e o) := by
  intro n
  induction n with
  | zero => intro _ e o he; omega
  | succ n ih =>
    intro hn e o he ho
    obtain ⟨h1, h2⟩ := smI_ok (r := r) (hh := hh) (lr := lr) (e := n) (D := D) (fun v o ho => hsum v n o (by omega) ho) (smA hh lr D n p) D (Nat.le_refl _)
    rw [smA_s]
    by_cases c : e = n
    · subst c; exact h1 o ho
    · rw [h2 (24 * e + o) (by omega)]; exact ih (by omega) e o (by omega) ho
theorem cpy_i {f v : Nat → Int32} {s i : Nat} (hi : i < 3) : va_cpy f v s 0 3 i = f (s + i) := by
  rw [va_cpy, if_pos (by omega)]; rfl
theorem mdA_ok {hh r v m : Nat → Int32} : ∀ n c, c < n → mdA hh r v n m c = elI hh (cvA hh r v (c + 1)) := by
  intro n
  induction n with
  | zero => intro c hc; omega
  | succ n ih =>
    intro c hc
    rw [mdA_s]
    by_cases e : c = n
    · subst e; exact xupd_e2 _ _ rfl
    · rw [xupd_ne e]; exact ih c (by omega)
theorem rGp_ok {r : Nat → Int32} {nc : Nat} {σ : MS} (hr : rwOK r nc) (h0 : 0 < szN r) (h164 : σ.2.2.1 164 = r) : rGp r nc (lcS (lgS σ (szN r) (gB r) (gC r)) nc) := by
  obtain ⟨hb, hrt, -, -, hcl⟩ := hr
  have hD := szN_le r
  subst h164
  have hag : agr (va_cpy (σ.2.2.1 164) (σ.2.2.1 169) 3 0 9) (fun k => σ.2.2.1 164 (3 + k)) := fun i c hi hc => by
    rw [va_cpy, if_pos (by omega)]; rfl
  have hh9 : ∀ k, k < 9 → hermA 3 (va_cpy (σ.2.2.1 164) (σ.2.2.1 169) 3 0 9) k = hmR (σ.2.2.1 164) k := fun k hk => by
    have := agr_herm hag 3 (Nat.le_refl _) (k / 3) (k % 3) (by omega) (by omega)
    rwa [Nat.div_add_mod] at this
  generalize hH : hermA 3 (va_cpy (σ.2.2.1 164) (σ.2.2.1 169) 3 0 9) = hh at *
  have hlr : ∀ e i, e < szN (σ.2.2.1 164) → i < 3 → lrA (gB (σ.2.2.1 164)) (gC (σ.2.2.1 164)) (szN (σ.2.2.1 164)) (σ.2.2.1 170) (3 * e + i) = nI (lrN (σ.2.2.1 164) e i) := fun e i he hi => lrA_i _ he hi
  simp (disch := decide) only [rGp, lcS, lgS, gA_eq, gA_ne, gA_1, gA_21, gA_222, gF_eq, gF_ne, gF_2, gW_1, gW_21, gW_22, gL_eq, gL_ne, gL_1, gL_21, gL_221, hH]
  refine ⟨trivial, trivial, ?_, hh9, hlr, ?_, ?_⟩
  · rw [cvA_0, el_r hb h0 hh9 (fun i hi => by rw [cpy_i hi]; exact Nat.le_trans (hrt i hi) (by omega)), cpy_i (by omega), cpy_i (by omega), cpy_i (by omega)]
    rfl
  · intro e o he ho
    exact smA_ok hD (fun v e o he ho => sum_el hb h0 hh9 hlr he ho) _ _ (Nat.le_refl _) e o he ho
  · intro c hc
    rw [mdA_ok nc c hc, cvA_s, el_r hb h0 hh9 (fun i hi => by rw [cpy_i hi]; exact Nat.le_trans (hcl c i hc hi) (by omega)), cpy_i (by omega), cpy_i (by omega), cpy_i (by omega)]
    rfl
theorem fr_lay (σ : MS) (D b c nc : Nat) : fr [12, 14] [169, 170, 171, 172, 173] σ (lcS (lgS σ D b c) nc) := by
  refine ⟨fun k hk => ?_, fun a ha => ?_, fun _ _ => rfl⟩
  · simp only [List.mem_cons, List.not_mem_nil, or_false, not_or] at hk
    show xupd (xupd σ.1 12 _) 14 _ k = _
    rw [xupd_ne hk.2, xupd_ne hk.1]
  · simp only [List.mem_cons, List.not_mem_nil, or_false, not_or] at ha
    obtain ⟨h1, h2, h3, h4, h5⟩ := ha
    show xupd (xupd (xupd (xupd (xupd (xupd σ.2.2.1 169 _) 170 _) 171 _) 172 _) 172 _) 173 _ a = _
    rw [xupd_ne h5, xupd_ne h4, xupd_ne h4, xupd_ne h3, xupd_ne h2, xupd_ne h1]
/-- the reference's group, laid anew -/
theorem p_layGroup {r : Nat → Int32} {nc : Nat} {h : AH} {σ : MS} {Q : Option Value → AH → Prop} (hr : rwOK r nc) (h164 : σ.2.2.1 164 = r) (k0 : szN r = 0 → Q (some (.int (nI 0))) (mk h (sF σ 12 (nI 0)))) (k1 : ∀ σ', 0 < szN r → rGp r nc σ' → fr [12, 14] [169, 170, 171, 172, 173] σ σ' → Q (some (.int (nI 1))) (mk h σ')) : m_X12_layGroup.1 [.ref 162] (mk h σ) Q := by
  have hs : sizI (detI (σ.2.2.1 164)) = nI (szN r) := by rw [h164]; exact siz_ok hr.1
  by_cases c : szN r = 0
  · exact (e_layGroup0 h σ Q (by rw [hs, c])).mpr (k0 c)
  · have h0 : 0 < szN r := by omega
    have hg := rGp_ok (σ := σ) hr h0 h164
    obtain ⟨⟨e0, e3, e4, e6, e7, e8⟩, -, ⟨ha, hb', hc⟩, -, ⟨ha2, hb2, hc2⟩, hp, hq, hr', -⟩ := hm_ok hr.1 h0
    have hag : agr (va_cpy (σ.2.2.1 164) (σ.2.2.1 169) 3 0 9) (fun k => r (3 + k)) := fun i c hi hc => by
      rw [va_cpy, if_pos (by omega), h164]; rfl
    have hh9 : ∀ k, k < 9 → hermA 3 (va_cpy (σ.2.2.1 164) (σ.2.2.1 169) 3 0 9) k = hmR r k := fun k hk => by
      have := agr_herm hag 3 (Nat.le_refl _) (k / 3) (k % 3) (by omega) (by omega)
      rwa [Nat.div_add_mod] at this
    have hf9 : ∀ k, k < 9 → va_cpy (σ.2.2.1 164) (σ.2.2.1 169) 3 0 9 k = r (3 + k) := fun k hk => by
      rw [va_cpy, if_pos (by omega), h164]; rfl
    have hz := (herm_ok (fun k hk => by rw [hf9 k hk]; exact hr.1 k hk) h0 (row_zK hf9 h0)).1
    refine (e_layGroup1 (szN r) (gB r) (gC r) nc h σ Q hs h0 (szN_le r) (by rw [h164]; exact hr.2.2.1) hr.2.2.2.1 hz (by rw [hh9 4 (by omega)]; exact e4) (by rw [hh9 8 (by omega)]; exact e8) hb' (by omega) hc (by omega) ?_).mpr (k1 _ h0 hg (fr_lay σ _ _ _ _))
    rw [hh9 0 (by omega), e0]
    exact nI_ne0 ha (by omega)
