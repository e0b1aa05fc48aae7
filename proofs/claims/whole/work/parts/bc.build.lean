/-! the table is built -/
theorem tbF_s (r : Nat → Int32) {l : List T3} {i : Nat} (hi : i < l.length) : tbF r (l.take (i + 1)) = tbS r (tbF r (l.take i)) (l.getD i (0, 0, 0)) := by
  rw [List.take_succ_eq_append_getElem hi, tbF, List.foldl_append, List.getD_eq_getElem?_getD, List.getElem?_eq_getElem hi]
  rfl
/-- what building may change -/
def bf (τ τ' : XS) : Prop := ∀ a, ¬ (94 ≤ a ∧ a < 147) → τ'.1 a = τ.1 a ∧ τ'.2.1 a = τ.2.1 a ∧ τ'.2.2 a = τ.2.2 a
theorem bf_xf {as : List Nat} {τ τ1 τ2 : XS} (h1 : bf τ τ1) (h2 : xf as τ1 τ2) (ha : ∀ a, a ∈ as → 94 ≤ a ∧ a < 147) : bf τ τ2 := fun a hz => by
  have x := h1 a hz
  have y := h2 a (fun z => hz (ha a z))
  exact ⟨y.1.trans x.1, y.2.1.trans x.2.1, y.2.2.trans x.2.2⟩
theorem tbX_k {D g n vn : Nat} {l : List (Nat → Nat)} {τ τ' : XS} (hT : tbX D g l τ) (hP : PrT τ) (hn : l.length < 25) (hR : τ.2.2 95 l.length = some vn) (hf : xf [vn, vn + 1] τ τ') : tbX D g l τ' ∧ PrT τ' := by
  obtain ⟨v0, w1, w2, w3, w4⟩ := hP.1 l.length hn
  rw [hR] at w1; cases w1
  have k : ∀ a, a ≠ vn → a ≠ vn + 1 → τ'.1 a = τ.1 a ∧ τ'.2.1 a = τ.2.1 a ∧ τ'.2.2 a = τ.2.2 a := fun a a1 a2 => hf a (fun z => by simp only [List.mem_cons, List.not_mem_nil, or_false] at z; omega)
  refine ⟨⟨by rw [(k 94 (by omega) (by omega)).1]; exact hT.1, fun i hi => ?_⟩, PrT_eq (k 95 (by omega) (by omega)).2.2 hP⟩
  obtain ⟨v, v1, v2⟩ := hT.2 i hi
  obtain ⟨v', u1, u2, u3, u4⟩ := hP.1 i (by omega)
  rw [v1] at u1; cases u1
  have ne : v ≠ vn := fun z => hP.2 i l.length (by omega) hn (by omega) (by rw [v1, hR, z])
  refine ⟨v, by rw [(k 95 (by omega) (by omega)).2.2]; exact v1, ?_⟩
  rw [vfn, (k v (by omega) (by omega)).1, (k (v + 1) (by omega) (by omega)).1]
  exact v2
theorem chX_k {l : List T3} {as : List Nat} {τ τ' : XS} (h : chX l τ) (hf : xf as τ τ') (h96 : 96 ∉ as) (h94 : τ'.1 94 2 = τ.1 94 2) : chX l τ' := by
  rw [chX, h94, (hf 96 h96).1]; exact h
