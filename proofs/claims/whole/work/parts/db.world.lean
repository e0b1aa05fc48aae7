/-! the six words, the statics -/
def stT (i : Nat) : Term := .string "CornerCuts" (422 + 2 * i)
def fl0 : List Cond := flatC (given_1.and narrow_1)
theorem st_1 : ((List.range 6).all fun i => decide (Cond.exactly (stT i) "java/lang/String" ∈ fl0) && decide (Cond.eq (.field (stT i) "java/lang/String" "coder" "B") (.int 0) ∈ fl0) && decide (Cond.arrayOf (.field (stT i) "java/lang/String" "value" "[B") .byte ∈ fl0) && decide (Cond.eq (.length (.field (stT i) "java/lang/String" "value" "[B")) (.int (Int32.ofNat (xtl.getD i 0))) ∈ fl0) && ((List.range (xtl.getD i 0)).all fun j => decide (Cond.eq (.elem (.field (stT i) "java/lang/String" "value" "[B") (.int (Int32.ofNat j))) (.int ((xtb.getD i []).getD j 0)) ∈ fl0))) = true := by decide +kernel
theorem st_2 : ((List.range 6).all fun i => (List.range 6).all fun j => decide (i = j) || decide (Cond.not (Cond.eq (stT i) (stT j)) ∈ fl0) || decide (Cond.not (Cond.eq (stT j) (stT i)) ∈ fl0)) = true := by decide +kernel
theorem st_3 : ((List.range 6).all fun i => decide (Cond.stringRef "CornerCuts" (422 + 2 * i) (xtx.getD i "") ∈ lw_tbl)) = true := by decide +kernel
theorem st_at {args : Array Value} {s : State} {A : Nat → Prop} (hg : ∀ c ∈ fl0, c.before args s = true) (hA : ∀ a : Nat, a < s.heap.size → ¬ A a) : ∃ adK adV : Nat → Nat, vk_S 6 xtl xtb adK adV A s s.heap ∧ ∀ i : Nat, i < 6 → (stT i).eval args s none [] s = some (.ref (adK i)) := by
  have h1 : ∀ i, i < 6 → ((((Cond.exactly (stT i) "java/lang/String" ∈ fl0 ∧ Cond.eq (.field (stT i) "java/lang/String" "coder" "B") (.int 0) ∈ fl0) ∧ Cond.arrayOf (.field (stT i) "java/lang/String" "value" "[B") .byte ∈ fl0) ∧ Cond.eq (.length (.field (stT i) "java/lang/String" "value" "[B")) (.int (Int32.ofNat (xtl.getD i 0))) ∈ fl0) ∧ ∀ j, j < xtl.getD i 0 → Cond.eq (.elem (.field (stT i) "java/lang/String" "value" "[B") (.int (Int32.ofNat j))) (.int ((xtb.getD i []).getD j 0)) ∈ fl0) := fun i hi => by
    have h := List.all_eq_true.mp st_1 i (List.mem_range.mpr hi)
    obtain ⟨h, h5⟩ := xand h
    obtain ⟨h, h4⟩ := xand h
    obtain ⟨h, h3⟩ := xand h
    obtain ⟨h1, h2⟩ := xand h
    exact ⟨⟨⟨⟨of_decide_eq_true h1, of_decide_eq_true h2⟩, of_decide_eq_true h3⟩, of_decide_eq_true h4⟩, fun j hj => of_decide_eq_true (List.all_eq_true.mp h5 j (List.mem_range.mpr hj))⟩
  refine vk_Sof (tm := stT) (args := args) (fun i hi => ?_) (fun i hi => hg _ (h1 i hi).1.1.1.1) (fun i hi => hg _ (h1 i hi).1.1.1.2) (fun i hi => hg _ (h1 i hi).1.1.2) (fun i hi => hg _ (h1 i hi).1.2) (fun i hi j hj => hg _ ((h1 i hi).2 j hj)) (fun i j hi hj hn => ?_) hA
  · rcases (by omega : i = 0 ∨ i = 1 ∨ i = 2 ∨ i = 3 ∨ i = 4 ∨ i = 5) with e | e | e | e | e | e <;> subst e <;> decide
  · have h := List.all_eq_true.mp (List.all_eq_true.mp st_2 i (List.mem_range.mpr hi)) j (List.mem_range.mpr hj)
    simp only [Bool.or_eq_true, decide_eq_true_eq] at h
    rcases h with (h | h) | h
    · exact absurd h hn
    · exact Or.inl (hg _ h)
    · exact Or.inr (hg _ h)
theorem stR_at {args : Array Value} {s : State} (hts : ∀ w ∈ lw_tbl, w.before args s = true) {adK : Nat → Nat} (he : ∀ i : Nat, i < 6 → (stT i).eval args s none [] s = some (.ref (adK i))) : ∀ i : Nat, i < 6 → vk_R "CornerCuts" (422 + 2 * i) (xtx.getD i "") (adK i) s := fun i hi => by
  have h := of_decide_eq_true (List.all_eq_true.mp st_3 i (List.mem_range.mpr hi))
  exact ⟨hts _ h, he i hi⟩
theorem zz_at {args : Array Value} {s : State} {A : Nat → Prop} (hts : ∀ w ∈ lw_tbl, w.before args s = true) (hg : ∀ c ∈ fl0, c.before args s = true) (hA : ∀ a : Nat, a < s.heap.size → ¬ A a) : va_Z "java/lang/String" "COMPACT_STRINGS" "Z" (.int 1) A s s.heap ∧ va_Zq "jdk/internal/util/Preconditions" "SIOOBE_FORMATTER" "Ljava/util/function/BiFunction;" A s s.heap :=
  ⟨va_Zof (hts (.laysStatic "java/lang/String" "COMPACT_STRINGS" "Z") (by decide +kernel)) (hts (.initialized "java/lang/String") (by decide +kernel)) (va_eqt (hg (.eq (.static "java/lang/String" "COMPACT_STRINGS" "Z") (.int 1)) (by decide +kernel))) hA, va_Zqof (hts (.laysStatic "jdk/internal/util/Preconditions" "SIOOBE_FORMATTER" "Ljava/util/function/BiFunction;") (by decide +kernel)) (hts (.initialized "jdk/internal/util/Preconditions") (by decide +kernel)) (hg (.isRef (.static "jdk/internal/util/Preconditions" "SIOOBE_FORMATTER" "Ljava/util/function/BiFunction;")) (by decide +kernel)) hA⟩
theorem ao_at {args : Array Value} {s : State} (hts : ∀ w ∈ lw_tbl, w.before args s = true) : va_AO "CornerCuts$Cut" s ∧ va_AO "CornerCuts$Model" s ∧ va_AO "CornerCuts$Values" s :=
  ⟨va_AO.of (hts _ (by decide +kernel)), va_AO.of (hts _ (by decide +kernel)), va_AO.of (hts _ (by decide +kernel))⟩
theorem xN_tab : ∀ c, xnb c = true → c.onTables = true := fun c h => by
  cases c <;> first | rfl | (simp [xnb] at h)
theorem xN_at {args : Array Value} {s : State} (hts : ∀ w ∈ lw_tbl, w.before args s = true) : ∀ c ∈ xN, va_Nw c s := fun c hc => by
  have h := List.mem_filter.mp hc
  exact va_Nw.of (xN_tab c h.2) (hts c h.1)
