/-! bits of a set -/
theorem sm_e : ∀ e : Fin 31, ((nI e.val &&& 31).toBitVec.smod 32).toNat = e.val := by decide
theorem x_shl {n e : Nat} (he : e < 31) (h : n * 2 ^ e < 4294967296) : xshl (nI n) (nI e) = nI (n * 2 ^ e) := pk_shlN _ e (sm_e ⟨e, he⟩) h
theorem x_shr {n e : Nat} (he : e < 31) (h : n < 2147483648) : xshr (nI n) (nI e) = nI (n / 2 ^ e) := pk_shrN h _ e (sm_e ⟨e, he⟩)
theorem nI_or (a b : Nat) : nI a ||| nI b = nI (a ||| b) := by
  apply Int32.toBitVec_inj.mp
  show BitVec.ofNat 32 a ||| BitVec.ofNat 32 b = BitVec.ofNat 32 (a ||| b)
  rw [BitVec.ofNat_or]
theorem nI_and (a b : Nat) : nI a &&& nI b = nI (a &&& b) := by
  apply Int32.toBitVec_inj.mp
  show BitVec.ofNat 32 a &&& BitVec.ofNat 32 b = BitVec.ofNat 32 (a &&& b)
  rw [BitVec.ofNat_and]
def zsN (v : Nat → Nat) (n : Nat) : Nat := xfo (fun e s => s ||| (if v e = 0 then 2 ^ e else 0)) n 0
theorem zsN_s (v : Nat → Nat) (n : Nat) : zsN v (n + 1) = zsN v n ||| (if v n = 0 then 2 ^ n else 0) := rfl
theorem zsN_lt (v : Nat → Nat) : ∀ n, zsN v n < 2 ^ n := by
  intro n
  induction n with
  | zero => show 0 < 1; omega
  | succ n ih =>
    rw [zsN_s]
    apply Nat.or_lt_two_pow
    · exact Nat.lt_of_lt_of_le ih (Nat.pow_le_pow_right (by omega) (by omega))
    · split
      · exact Nat.pow_lt_pow_right (by omega) (by omega)
      · exact Nat.two_pow_pos _
theorem zsN_bit (v : Nat → Nat) : ∀ n i, (zsN v n).testBit i = (decide (i < n) && decide (v i = 0)) := by
  intro n
  induction n with
  | zero => intro i; show Nat.testBit 0 i = _; simp
  | succ n ih =>
    intro i
    rw [zsN_s, Nat.testBit_or, ih]
    by_cases c : v n = 0
    · rw [if_pos c, Nat.testBit_two_pow]
      by_cases d : i = n
      · subst d; simp [c]
      · have h1 : decide (n = i) = false := decide_eq_false (fun z => d z.symm)
        have h2 : decide (i < n + 1) = decide (i < n) := by rw [decide_eq_decide]; omega
        rw [h1, h2, Bool.or_false]
    · rw [if_neg c, Nat.zero_testBit, Bool.or_false]
      by_cases d : i = n
      · subst d; simp [c]
      · have h2 : decide (i < n + 1) = decide (i < n) := by rw [decide_eq_decide]; omega
        rw [h2]
theorem zs_one {v : Nat → Nat} {n i : Nat} (hi : i < n) : zsN v n / 2 ^ i % 2 = if v i = 0 then 1 else 0 := by
  have h := zsN_bit v n i
  rw [Nat.testBit_eq_decide_div_mod_eq, decide_eq_true hi, Bool.true_and, decide_eq_decide] at h
  have h2 := Nat.mod_two_eq_zero_or_one (zsN v n / 2 ^ i)
  split
  · next c => exact h.mpr c
  · next c =>
    rcases h2 with z | z
    · exact z
    · exact absurd (h.mp z) c
theorem nI_and1 {n : Nat} (h : n < 4294967296) : nI n &&& nI 1 = nI (n % 2) := by
  rw [nI_and, Nat.and_one_is_mod]
theorem and_mod (a b : Nat) : (a &&& b) % 2 = (a % 2) * (b % 2) := by
  rw [← Nat.and_one_is_mod, Nat.and_assoc, Nat.and_one_is_mod]
  rcases Nat.mod_two_eq_zero_or_one b with z | z
  · rw [z, Nat.and_zero, Nat.mul_zero]
  · rw [z, Nat.and_one_is_mod, Nat.mul_one]
