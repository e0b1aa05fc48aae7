/-! what the basis takes: the class's way and the reference's -/
theorem z_fm2 {x y z : Int32} {a b c : Int} (hx : x.toInt = a) (hy : y.toInt = b) (hz : z.toInt = c) (h1 : (b * c).natAbs < 100000000) (h2 : a.natAbs < 2000000000) : (x + y * z).toInt = a + b * c := by
  have e : (y * z).toInt = b * c := by rw [z_mul (by rw [hy, hz]; omega), hy, hz]
  rw [z_add (by rw [hx, e]; omega), hx, e]
theorem z_fs2 {x y z : Int32} {a b c : Int} (hx : x.toInt = a) (hy : y.toInt = b) (hz : z.toInt = c) (h1 : (b * c).natAbs < 100000000) (h2 : a.natAbs < 2000000000) : (x - y * z).toInt = a - b * c := by
  have e : (y * z).toInt = b * c := by rw [z_mul (by rw [hy, hz]; omega), hy, hz]
  rw [Int32.toInt_sub, hx, e]
  exact Int.bmod_eq_of_le (by omega) (by omega)
/-- columns taken so often, added up -/
def acZ (r : Nat → Int32) (T : Nat → Nat) (i n : Nat) : Int := xfo (fun c s => s + (T c : Int) * (r (15 + 4 * c + i)).toInt) n 0
theorem acZ_s (r : Nat → Int32) (T : Nat → Nat) (i n : Nat) : acZ r T i (n + 1) = acZ r T i n + (T n : Int) * (r (15 + 4 * n + i)).toInt := rfl
theorem sN_hom {r : Nat → Int32} (hb : bsOK r) (h0 : 0 < szN r) (x y z x' y' z' : Int) : sNr r (elN r x y z) (elN r x' y' z') = elN r (x + x') (y + y') (z + z') := by
  obtain ⟨-, -, ⟨ha, hb', hc⟩, -⟩ := hm_ok hb h0
  rw [sNr, elN, elN, elN]
  exact gS_hom ha hb' hc x y z x' y' z'
theorem el_mul {r : Nat → Int32} (hb : bsOK r) (h0 : 0 < szN r) (X Y Z x y z : Int) : ∀ n : Nat, xfo (fun _ e => sNr r e (elN r x y z)) n (elN r X Y Z) = elN r (X + n * x) (Y + n * y) (Z + n * z) := by
  obtain ⟨-, -, ⟨ha, hb', hc⟩, -⟩ := hm_ok hb h0
  intro n
  induction n with
  | zero => show elN r X Y Z = _; congr 1 <;> simp
  | succ n ih =>
    rw [xfo_s, ih]
    rw [sN_hom hb h0]
    congr 1
    · rw [Int.natCast_add, Int.add_mul]; simp [Int.add_assoc]
    · rw [Int.natCast_add, Int.add_mul]; simp [Int.add_assoc]
    · rw [Int.natCast_add, Int.add_mul]; simp [Int.add_assoc]
theorem elW_ac {r : Nat → Int32} (hb : bsOK r) (h0 : 0 < szN r) (T : Nat → Nat) : ∀ n, elW (sNr r) (mdN r) T n = elN r (acZ r T 0 n) (acZ r T 1 n) (acZ r T 2 n) := by
  intro n
  induction n with
  | zero =>
    obtain ⟨-, -, ⟨ha, hb', hc⟩, hm, -⟩ := hm_ok hb h0
    show 0 = gN _ _ _ _ _ _ 0 0 0
    have := gN_l (p := gP r) (q := gQ r) (r := gR r) ha hb' hc (e := 0) (by rw [hm]; exact h0)
    simp [l0, l1, l2] at this
    exact this.symm
  | succ n ih =>
    rw [elW_s, ih, mdN, el_mul hb h0]
    rfl
theorem ac_dv {r : Nat → Int32} (hb : bsOK r) (h0 : 0 < szN r) {T : Nat → Nat} {nc : Nat} (hg : elW (sNr r) (mdN r) T nc = glN r) {k : Nat} (hk : k < 3) : ∃ d : Int, ivZ r k 0 * ((r 12).toInt - acZ r T 0 nc) + ivZ r k 1 * ((r 13).toInt - acZ r T 1 nc) + ivZ r k 2 * ((r 14).toInt - acZ r T 2 nc) = (szN r : Int) * d := by
  obtain ⟨⟨e0, e3, e4, e6, e7, e8⟩, ⟨e1, e2, e5⟩, ⟨ha, hb', hc⟩, hm, ⟨ha2, hb2, hc2⟩, -, -, -, hl⟩ := hm_ok hb h0
  have hL := sN_law hb h0
  rw [elW_ac hb h0] at hg
  have hz : elN r ((r 12).toInt - acZ r T 0 nc) ((r 13).toInt - acZ r T 1 nc) ((r 14).toInt - acZ r T 2 nc) = 0 := by
    have lt : ∀ x y z, elN r x y z < szN r := fun x y z => by rw [← hm]; exact gN_lt ha hb' hc x y z
    have h1 : sNr r (elN r ((r 12).toInt - acZ r T 0 nc) ((r 13).toInt - acZ r T 1 nc) ((r 14).toInt - acZ r T 2 nc)) (elN r (acZ r T 0 nc) (acZ r T 1 nc) (acZ r T 2 nc)) = glN r := by
      rw [sN_hom hb h0, Int.sub_add_cancel, Int.sub_add_cancel, Int.sub_add_cancel, glN]
    have h2 : sNr r 0 (elN r (acZ r T 0 nc) (acZ r T 1 nc) (acZ r T 2 nc)) = glN r := (hL.2.2.1 _ (lt _ _ _)).trans hg
    exact gl_cancel hL (lt _ _ _) h0 (lt _ _ _) (h1.trans h2.symm)
  obtain ⟨s, u, w, q0, q1, q2⟩ := l_gN (p := gP r) (q := gQ r) (r := gR r) ha hb' hc ((r 12).toInt - acZ r T 0 nc) ((r 13).toInt - acZ r T 1 nc) ((r 14).toInt - acZ r T 2 nc)
  rw [elN] at hz
  rw [hz] at q0 q1 q2
  simp [l0, l1, l2] at q0 q1 q2
  generalize (r 12).toInt - acZ r T 0 nc = V0 at *
  generalize (r 13).toInt - acZ r T 1 nc = V1 at *
  generalize (r 14).toInt - acZ r T 2 nc = V2 at *
  obtain ⟨d0, k0⟩ := iv_la hl (c := 0) (k := k) (by omega) hk
  obtain ⟨d1, k1⟩ := iv_la hl (c := 1) (k := k) (by omega) hk
  obtain ⟨d2, k2⟩ := iv_la hl (c := 2) (k := k) (by omega) hk
  have f : ∀ j n, hmR r j = nI n → n < 1000 → zi (hmR r) j = n := fun j n e hn => by show (hmR r j).toInt = n; rw [e, nI_toInt (by omega)]
  have f0 : ∀ j, hmR r j = 0 → zi (hmR r) j = 0 := fun j e => by show (hmR r j).toInt = 0; rw [e]; rfl
  obtain ⟨-, -, -, -, -, hp, hq, hr, -⟩ := hm_ok hb h0
  simp only [Nat.mul_zero, Nat.zero_add, Nat.mul_one] at k0 k1 k2
  rw [f 0 _ e0 (by omega), f 3 _ e3 (by omega), show zi (hmR r) (3 * 2 + 0) = (gQ r : Int) from f 6 _ e6 (by omega)] at k0
  rw [f0 1 e1, show zi (hmR r) (3 + 1) = (gB r : Int) from f 4 _ e4 (by omega), show zi (hmR r) (3 * 2 + 1) = (gR r : Int) from f 7 _ e7 (by omega)] at k1
  rw [f0 2 e2, show zi (hmR r) (3 + 2) = 0 from f0 5 e5, show zi (hmR r) (3 * 2 + 2) = (gC r : Int) from f 8 _ e8 (by omega)] at k2
  refine ⟨-(d0 * s + d1 * u + d2 * w), ?_⟩
  have v0 : V0 = -(s * gA r) := by omega
  have v1 : V1 = -(s * gP r + u * gB r) := by omega
  have v2 : V2 = -(s * gQ r + u * gR r + w * gC r) := by omega
  subst v0 v1 v2
  grind
