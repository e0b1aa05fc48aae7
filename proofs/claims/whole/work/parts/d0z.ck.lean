/-! the law's bytes are the node's, whatever the script -/
theorem law_ck (P : Nat × (Nat → Int32)) : (b_law P).1.2.1 code 0 (b_law P).1.1 0 0 = true := by rw [skl_1 (law_s P), skl_2 (law_s P)]; exact law_0
