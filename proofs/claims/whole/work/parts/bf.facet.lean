/-! a function of the table is judged -/
theorem CI_jt {n0 : Nat} {G : Nat → Nat → Int32} {r : Nat → Int32} {m nc nk i v : Nat} {c : XC} {τ τ' : XS} (hC : CI n0 G c τ r m nc nk) (h0 : 0 < szN r) (hi : i < (tbl r m).length) (hv : τ.2.2 95 i = some v) (hf : xf [91, 92, 93, v] τ τ') (h1 : τ'.1 v 1 = τ.1 v 1) (hj : jdO n0 r (fnAt (tbl r m) i) τ' v) : CI n0 G c τ' r m nc nk ∧ qf τ τ' := by
  obtain ⟨hR, hM, hJ, hP, hG, hW, hT⟩ := hC
  have tl := tbl_len (m := m) hR.1.1 h0
  obtain ⟨v', w1, w2, w3, w4⟩ := hP.1 i (by omega)
  rw [hv] at w1; cases w1
  have q : qf τ τ' := qf_xf hf (fun a h => by simp only [List.mem_cons, List.not_mem_nil, or_false] at h; omega)
  have k : ∀ a, a ≠ 91 → a ≠ 92 → a ≠ 93 → a ≠ v → τ'.1 a = τ.1 a ∧ τ'.2.1 a = τ.2.1 a ∧ τ'.2.2 a = τ.2.2 a := fun a a1 a2 a3 a4 => hf a (fun z => by simp only [List.mem_cons, List.not_mem_nil, or_false] at z; omega)
  have k0 := (k 0 (by omega) (by omega) (by omega) (by omega)).1
  have k95 := (k 95 (by omega) (by omega) (by omega) (by omega)).2.2
  refine ⟨⟨hR, MdR_qf q rfl hM, JdA_eq (fun a h => (k a (by omega) (by omega) (by omega) (by omega)).1) hJ, PrT_eq k95 hP, ?_, ?_, ?_⟩, q⟩
  · rcases hG with z | ⟨z1, z2⟩
    · exact Or.inl (by rw [k0]; exact z)
    · exact Or.inr ⟨by rw [k0]; exact z1, xGp_eq (fun a h1 h2 => (k a (by omega) (by omega) (by omega) (by omega)).1) z2⟩
  · rcases hW with z | ⟨z1, z2, z3⟩
    · exact Or.inl (by rw [k0]; exact z)
    · exact Or.inr ⟨by rw [k0]; exact z1, by rw [k0]; exact z2, xWk_eq (fun a h1 h2 => (k a (by omega) (by omega) (by omega) (by omega)).1) (fun a h1 h2 => (k a (by omega) (by omega) (by omega) (by omega)).2.1) z3⟩
  · rcases hT with z | ⟨z1, z2, z3⟩
    · exact Or.inl (by rw [k0]; exact z)
    · refine Or.inr ⟨by rw [k0]; exact z1, by rw [k0]; exact z2, ⟨fun e0 => absurd e0 (by omega), fun e0 => ⟨by rw [(k 94 (by omega) (by omega) (by omega) (by omega)).1]; exact (z3.2 e0).1, fun j hj' => ?_⟩⟩⟩
      obtain ⟨u, u1, u2, u3, u4⟩ := (z3.2 e0).2 j hj'
      obtain ⟨u', x1, x2, x3, x4⟩ := hP.1 j (by omega)
      rw [u1] at x1; cases x1
      refine ⟨u, by rw [k95]; exact u1, fun e he => by rw [(k (u + 1) (by omega) (by omega) (by omega) (by omega)).1]; exact u2 e he, ?_, ?_⟩
      · by_cases e : u = v
        · rw [e, h1, ← e]; exact u3
        · rw [(k u (by omega) (by omega) (by omega) e).1]; exact u3
      · by_cases e : u = v
        · have ij : j = i := by
            apply Classical.byContradiction
            intro z
            exact hP.2 j i (by omega) (by omega) z (by rw [u1, hv, e])
          rw [ij, e]; exact hj
        · exact jdO_eq (k u (by omega) (by omega) (by omega) e).1 u4
