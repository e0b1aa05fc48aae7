/-! the world at the law's entry -/
theorem cls_in : (vwCl.all fun r => ((Cond.instantiable r.1 r.2.2) :: u_ws r.1 r.2.1 r.2.2).all (fun w => decide (w ∈ lw_tbl))) = true := by decide +kernel
theorem kn_at {args : Array Value} {s : State} (hts : ∀ w ∈ lw_tbl, w.before args s = true) (r : vw_C) (hr : r ∈ vwCl) : ∃ (cC : ClassId) (iS : Nat → Nat), u_Kn s r.1 r.2.1 r.2.2 cC iS := by
  have h := List.all_eq_true.mp cls_in r hr
  have h := fun w hw => of_decide_eq_true (List.all_eq_true.mp h w hw)
  exact u_known hts (fun w hw => h w (List.mem_cons_of_mem _ hw)) (hts _ (h _ List.mem_cons_self))
theorem ary_at {args : Array Value} {s : State} (hts : ∀ w ∈ lw_tbl, w.before args s = true) : ∃ f : FieldType → ClassId, ∀ (k : Nat) (q : ClassId × FieldType), (xty.map (fun t => (f t, t)))[k]? = some q → ArrOfT s q.1 q.2 ∧ va_RA s q.1 q.2 := by
  have p1 : ∀ ty, ty = .int ∨ ty = .long ∨ ty = .boolean → ∃ c, ArrOfT s c ty ∧ va_RA s c ty := fun ty h => by
    have hm : (Cond.arrayClass ty).before args s = true := hts _ (by rcases h with rfl | rfl | rfl <;> decide +kernel)
    obtain ⟨c, k, comp, h1, h2, h3⟩ := Cond.arrayClass_spec hm
    refine ⟨c, fun n z => ⟨fun k h => (by cases h), k, h2, comp, h3⟩, ?_⟩
    rcases h with rfl | rfl | rfl <;> exact h1
  have p2 : ∀ C, C = "CornerCuts$Cut" ∨ C = "CornerCuts$Model" ∨ C = "CornerCuts$Values" → ∃ c, ArrOfT s c (.object C) ∧ va_RA s c (.object C) := fun C h => by
    have hm : (Cond.arrayOver (.object C)).before args s = true := hts _ (by rcases h with rfl | rfl | rfl <;> decide +kernel)
    obtain ⟨comp, c, k, h1, -, h2, h3, h4⟩ := Cond.arrayOver_spec hm
    exact ⟨c, fun n z => ⟨fun k h => (by cases h), k, h2, comp, h3⟩, k, comp, h2, h3, h1, h4⟩
  obtain ⟨c1, h1⟩ := p1 .int (Or.inl rfl)
  obtain ⟨c2, h2⟩ := p1 .long (Or.inr (Or.inl rfl))
  obtain ⟨c3, h3⟩ := p1 .boolean (Or.inr (Or.inr rfl))
  obtain ⟨c4, h4⟩ := p2 _ (Or.inl rfl)
  obtain ⟨c5, h5⟩ := p2 _ (Or.inr (Or.inl rfl))
  obtain ⟨c6, h6⟩ := p2 _ (Or.inr (Or.inr rfl))
  refine ⟨fun t => if t = .int then c1 else if t = .long then c2 else if t = .boolean then c3 else if t = .object "CornerCuts$Cut" then c4 else if t = .object "CornerCuts$Model" then c5 else c6, ?_⟩
  intro k q hq
  match k, hq with
  | 0, hq => cases hq; exact h1
  | 1, hq => cases hq; exact h2
  | 2, hq => cases hq; exact h3
  | 3, hq => cases hq; exact h4
  | 4, hq => cases hq; exact h5
  | 5, hq => cases hq; exact h6
  | k + 6, hq => simp at hq
