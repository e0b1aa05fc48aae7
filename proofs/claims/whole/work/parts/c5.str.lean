/-! the six words of the class -/
theorem fi_ret {h : AH} {v : Value} {i : Instr} {t : FieldType} {Q : Option Value → AH → Prop} (h1 : xrI (some v) = i) (h2 : xrv (some t) (some v)) : (∃ w, some v = some w ∧ xrI (some w) = i ∧ (Q (some w) h ∧ xrv (some t) (some w))) ↔ Q (some v) h := by
  constructor
  · rintro ⟨w, hv, -, hq, -⟩; cases hv; exact hq
  · intro hq; exact ⟨_, rfl, h1, hq, h2⟩
section
variable {h : AH} {Q : Option Value → AH → Prop}
theorem c_preN3_0 (K : Q (some (.int (nI 0))) h) : m_J_Pre_checkIndex.1 [.int (nI 0), .int (nI 3), .null] h Q := by
  refine (xM_iff (g := g_J_Pre_checkIndex) (b := b_J_Pre_checkIndex) [.int (nI 0), .int (nI 3), .null] (Nat.le_of_ble_eq_true rfl) rfl).mpr ?_
  refine ⟨_, rfl, ?_⟩
  refine Eq.mpr (if_neg (by decide)) ?_
  exact ⟨_, rfl, rfl, K, trivial⟩
theorem c_preR3_0 (K : Q (some (.int (nI 0))) h) : m_J_Pre_checkIndex.1 [.int (nI 0), .int (nI 3), .retAddr 13] h Q := by
  refine (xM_iff (g := g_J_Pre_checkIndex) (b := b_J_Pre_checkIndex) [.int (nI 0), .int (nI 3), .retAddr 13] (Nat.le_of_ble_eq_true rfl) rfl).mpr ?_
  refine ⟨_, rfl, ?_⟩
  refine Eq.mpr (if_neg (by decide)) ?_
  exact ⟨_, rfl, rfl, K, trivial⟩
theorem c_ci3_0 (K : Q none h) : m_J_String_checkIndex.1 [.int (nI 0), .int (nI 3)] h Q := by
  refine (xM_iff (g := g_J_String_checkIndex) (b := b_J_String_checkIndex) [.int (nI 0), .int (nI 3)] (Nat.le_of_ble_eq_true rfl) rfl).mpr ?_
  exact ⟨_, rfl, _, rfl, ⟨⟨Nat.le_of_ble_eq_true rfl, Nat.le_of_ble_eq_true rfl⟩, c_preN3_0 ⟨_, rfl, rfl, K, trivial⟩⟩, ⟨Nat.le_of_ble_eq_true rfl, Nat.le_of_ble_eq_true rfl⟩, c_preR3_0 ⟨_, rfl, rfl, K, trivial⟩⟩
theorem c_preN3_1 (K : Q (some (.int (nI 1))) h) : m_J_Pre_checkIndex.1 [.int (nI 1), .int (nI 3), .null] h Q := by
  refine (xM_iff (g := g_J_Pre_checkIndex) (b := b_J_Pre_checkIndex) [.int (nI 1), .int (nI 3), .null] (Nat.le_of_ble_eq_true rfl) rfl).mpr ?_
  refine ⟨_, rfl, ?_⟩
  refine Eq.mpr (if_neg (by decide)) ?_
  exact ⟨_, rfl, rfl, K, trivial⟩
theorem c_preR3_1 (K : Q (some (.int (nI 1))) h) : m_J_Pre_checkIndex.1 [.int (nI 1), .int (nI 3), .retAddr 13] h Q := by
  refine (xM_iff (g := g_J_Pre_checkIndex) (b := b_J_Pre_checkIndex) [.int (nI 1), .int (nI 3), .retAddr 13] (Nat.le_of_ble_eq_true rfl) rfl).mpr ?_
  refine ⟨_, rfl, ?_⟩
  refine Eq.mpr (if_neg (by decide)) ?_
  exact ⟨_, rfl, rfl, K, trivial⟩
theorem c_ci3_1 (K : Q none h) : m_J_String_checkIndex.1 [.int (nI 1), .int (nI 3)] h Q := by
  refine (xM_iff (g := g_J_String_checkIndex) (b := b_J_String_checkIndex) [.int (nI 1), .int (nI 3)] (Nat.le_of_ble_eq_true rfl) rfl).mpr ?_
  exact ⟨_, rfl, _, rfl, ⟨⟨Nat.le_of_ble_eq_true rfl, Nat.le_of_ble_eq_true rfl⟩, c_preN3_1 ⟨_, rfl, rfl, K, trivial⟩⟩, ⟨Nat.le_of_ble_eq_true rfl, Nat.le_of_ble_eq_true rfl⟩, c_preR3_1 ⟨_, rfl, rfl, K, trivial⟩⟩
theorem c_preN3_2 (K : Q (some (.int (nI 2))) h) : m_J_Pre_checkIndex.1 [.int (nI 2), .int (nI 3), .null] h Q := by
  refine (xM_iff (g := g_J_Pre_checkIndex) (b := b_J_Pre_checkIndex) [.int (nI 2), .int (nI 3), .null] (Nat.le_of_ble_eq_true rfl) rfl).mpr ?_
  refine ⟨_, rfl, ?_⟩
  refine Eq.mpr (if_neg (by decide)) ?_
  exact ⟨_, rfl, rfl, K, trivial⟩
theorem c_preR3_2 (K : Q (some (.int (nI 2))) h) : m_J_Pre_checkIndex.1 [.int (nI 2), .int (nI 3), .retAddr 13] h Q := by
  refine (xM_iff (g := g_J_Pre_checkIndex) (b := b_J_Pre_checkIndex) [.int (nI 2), .int (nI 3), .retAddr 13] (Nat.le_of_ble_eq_true rfl) rfl).mpr ?_
  refine ⟨_, rfl, ?_⟩
  refine Eq.mpr (if_neg (by decide)) ?_
  exact ⟨_, rfl, rfl, K, trivial⟩
theorem c_ci3_2 (K : Q none h) : m_J_String_checkIndex.1 [.int (nI 2), .int (nI 3)] h Q := by
  refine (xM_iff (g := g_J_String_checkIndex) (b := b_J_String_checkIndex) [.int (nI 2), .int (nI 3)] (Nat.le_of_ble_eq_true rfl) rfl).mpr ?_
  exact ⟨_, rfl, _, rfl, ⟨⟨Nat.le_of_ble_eq_true rfl, Nat.le_of_ble_eq_true rfl⟩, c_preN3_2 ⟨_, rfl, rfl, K, trivial⟩⟩, ⟨Nat.le_of_ble_eq_true rfl, Nat.le_of_ble_eq_true rfl⟩, c_preR3_2 ⟨_, rfl, rfl, K, trivial⟩⟩
theorem c_preN4_0 (K : Q (some (.int (nI 0))) h) : m_J_Pre_checkIndex.1 [.int (nI 0), .int (nI 4), .null] h Q := by
  refine (xM_iff (g := g_J_Pre_checkIndex) (b := b_J_Pre_checkIndex) [.int (nI 0), .int (nI 4), .null] (Nat.le_of_ble_eq_true rfl) rfl).mpr ?_
  refine ⟨_, rfl, ?_⟩
  refine Eq.mpr (if_neg (by decide)) ?_
  exact ⟨_, rfl, rfl, K, trivial⟩
theorem c_preR4_0 (K : Q (some (.int (nI 0))) h) : m_J_Pre_checkIndex.1 [.int (nI 0), .int (nI 4), .retAddr 13] h Q := by
  refine (xM_iff (g := g_J_Pre_checkIndex) (b := b_J_Pre_checkIndex) [.int (nI 0), .int (nI 4), .retAddr 13] (Nat.le_of_ble_eq_true rfl) rfl).mpr ?_
  refine ⟨_, rfl, ?_⟩
  refine Eq.mpr (if_neg (by decide)) ?_
  exact ⟨_, rfl, rfl, K, trivial⟩
theorem c_ci4_0 (K : Q none h) : m_J_String_checkIndex.1 [.int (nI 0), .int (nI 4)] h Q := by
  refine (xM_iff (g := g_J_String_checkIndex) (b := b_J_String_checkIndex) [.int (nI 0), .int (nI 4)] (Nat.le_of_ble_eq_true rfl) rfl).mpr ?_
  exact ⟨_, rfl, _, rfl, ⟨⟨Nat.le_of_ble_eq_true rfl, Nat.le_of_ble_eq_true rfl⟩, c_preN4_0 ⟨_, rfl, rfl, K, trivial⟩⟩, ⟨Nat.le_of_ble_eq_true rfl, Nat.le_of_ble_eq_true rfl⟩, c_preR4_0 ⟨_, rfl, rfl, K, trivial⟩⟩
theorem c_preN4_1 (K : Q (some (.int (nI 1))) h) : m_J_Pre_checkIndex.1 [.int (nI 1), .int (nI 4), .null] h Q := by
  refine (xM_iff (g := g_J_Pre_checkIndex) (b := b_J_Pre_checkIndex) [.int (nI 1), .int (nI 4), .null] (Nat.le_of_ble_eq_true rfl) rfl).mpr ?_
  refine ⟨_, rfl, ?_⟩
  refine Eq.mpr (if_neg (by decide)) ?_
  exact ⟨_, rfl, rfl, K, trivial⟩
theorem c_preR4_1 (K : Q (some (.int (nI 1))) h) : m_J_Pre_checkIndex.1 [.int (nI 1), .int (nI 4), .retAddr 13] h Q := by
  refine (xM_iff (g := g_J_Pre_checkIndex) (b := b_J_Pre_checkIndex) [.int (nI 1), .int (nI 4), .retAddr 13] (Nat.le_of_ble_eq_true rfl) rfl).mpr ?_
  refine ⟨_, rfl, ?_⟩
  refine Eq.mpr (if_neg (by decide)) ?_
  exact ⟨_, rfl, rfl, K, trivial⟩
theorem c_ci4_1 (K : Q none h) : m_J_String_checkIndex.1 [.int (nI 1), .int (nI 4)] h Q := by
  refine (xM_iff (g := g_J_String_checkIndex) (b := b_J_String_checkIndex) [.int (nI 1), .int (nI 4)] (Nat.le_of_ble_eq_true rfl) rfl).mpr ?_
  exact ⟨_, rfl, _, rfl, ⟨⟨Nat.le_of_ble_eq_true rfl, Nat.le_of_ble_eq_true rfl⟩, c_preN4_1 ⟨_, rfl, rfl, K, trivial⟩⟩, ⟨Nat.le_of_ble_eq_true rfl, Nat.le_of_ble_eq_true rfl⟩, c_preR4_1 ⟨_, rfl, rfl, K, trivial⟩⟩
theorem c_preN4_2 (K : Q (some (.int (nI 2))) h) : m_J_Pre_checkIndex.1 [.int (nI 2), .int (nI 4), .null] h Q := by
  refine (xM_iff (g := g_J_Pre_checkIndex) (b := b_J_Pre_checkIndex) [.int (nI 2), .int (nI 4), .null] (Nat.le_of_ble_eq_true rfl) rfl).mpr ?_
  refine ⟨_, rfl, ?_⟩
  refine Eq.mpr (if_neg (by decide)) ?_
  exact ⟨_, rfl, rfl, K, trivial⟩
theorem c_preR4_2 (K : Q (some (.int (nI 2))) h) : m_J_Pre_checkIndex.1 [.int (nI 2), .int (nI 4), .retAddr 13] h Q := by
  refine (xM_iff (g := g_J_Pre_checkIndex) (b := b_J_Pre_checkIndex) [.int (nI 2), .int (nI 4), .retAddr 13] (Nat.le_of_ble_eq_true rfl) rfl).mpr ?_
  refine ⟨_, rfl, ?_⟩
  refine Eq.mpr (if_neg (by decide)) ?_
  exact ⟨_, rfl, rfl, K, trivial⟩
theorem c_ci4_2 (K : Q none h) : m_J_String_checkIndex.1 [.int (nI 2), .int (nI 4)] h Q := by
  refine (xM_iff (g := g_J_String_checkIndex) (b := b_J_String_checkIndex) [.int (nI 2), .int (nI 4)] (Nat.le_of_ble_eq_true rfl) rfl).mpr ?_
  exact ⟨_, rfl, _, rfl, ⟨⟨Nat.le_of_ble_eq_true rfl, Nat.le_of_ble_eq_true rfl⟩, c_preN4_2 ⟨_, rfl, rfl, K, trivial⟩⟩, ⟨Nat.le_of_ble_eq_true rfl, Nat.le_of_ble_eq_true rfl⟩, c_preR4_2 ⟨_, rfl, rfl, K, trivial⟩⟩
theorem c_preN4_3 (K : Q (some (.int (nI 3))) h) : m_J_Pre_checkIndex.1 [.int (nI 3), .int (nI 4), .null] h Q := by
  refine (xM_iff (g := g_J_Pre_checkIndex) (b := b_J_Pre_checkIndex) [.int (nI 3), .int (nI 4), .null] (Nat.le_of_ble_eq_true rfl) rfl).mpr ?_
  refine ⟨_, rfl, ?_⟩
  refine Eq.mpr (if_neg (by decide)) ?_
  exact ⟨_, rfl, rfl, K, trivial⟩
theorem c_preR4_3 (K : Q (some (.int (nI 3))) h) : m_J_Pre_checkIndex.1 [.int (nI 3), .int (nI 4), .retAddr 13] h Q := by
  refine (xM_iff (g := g_J_Pre_checkIndex) (b := b_J_Pre_checkIndex) [.int (nI 3), .int (nI 4), .retAddr 13] (Nat.le_of_ble_eq_true rfl) rfl).mpr ?_
  refine ⟨_, rfl, ?_⟩
  refine Eq.mpr (if_neg (by decide)) ?_
  exact ⟨_, rfl, rfl, K, trivial⟩
theorem c_ci4_3 (K : Q none h) : m_J_String_checkIndex.1 [.int (nI 3), .int (nI 4)] h Q := by
  refine (xM_iff (g := g_J_String_checkIndex) (b := b_J_String_checkIndex) [.int (nI 3), .int (nI 4)] (Nat.le_of_ble_eq_true rfl) rfl).mpr ?_
  exact ⟨_, rfl, _, rfl, ⟨⟨Nat.le_of_ble_eq_true rfl, Nat.le_of_ble_eq_true rfl⟩, c_preN4_3 ⟨_, rfl, rfl, K, trivial⟩⟩, ⟨Nat.le_of_ble_eq_true rfl, Nat.le_of_ble_eq_true rfl⟩, c_preR4_3 ⟨_, rfl, rfl, K, trivial⟩⟩
theorem c_coder0 (K : Q (some (.int (nI 0))) h) : m_J_String_coder.1 [.retAddr 1] h Q := by
  refine (xM_iff (g := g_J_String_coder) (b := b_J_String_coder) [.retAddr 1] (Nat.le_of_ble_eq_true rfl) rfl).mpr ?_
  exact ⟨_, rfl, rfl, K, rfl⟩
theorem c_lat0 (K : Q (some (.int (nI 1))) h) : m_J_String_isLatin1.1 [.retAddr 1] h Q := by
  refine (xM_iff (g := g_J_String_isLatin1) (b := b_J_String_isLatin1) [.retAddr 1] (Nat.le_of_ble_eq_true rfl) rfl).mpr ?_
  exact ⟨_, rfl, rfl, K, Or.inr rfl⟩
theorem c_len0 (K : Q (some (.int (nI 3))) h) : m_J_String_length.1 [.retAddr 1] h Q := by
  refine (xM_iff (g := g_J_String_length) (b := b_J_String_length) [.retAddr 1] (Nat.le_of_ble_eq_true rfl) rfl).mpr ?_
  exact ⟨_, rfl, _, rfl, 0, rfl, by omega, ⟨Nat.le_of_ble_eq_true rfl, Nat.le_of_ble_eq_true rfl⟩, c_coder0 ⟨_, rfl, by decide, _, rfl, rfl, K, trivial⟩⟩
theorem c_l1_0_0 (K : Q (some (.int (nI 103))) h) : m_J_Latin1_charAt.1 [.retAddr 7, .int (nI 0)] h Q := by
  refine (xM_iff (g := g_J_Latin1_charAt) (b := b_J_Latin1_charAt) [.retAddr 7, .int (nI 0)] (Nat.le_of_ble_eq_true rfl) rfl).mpr ?_
  exact ⟨_, rfl, _, rfl, ⟨Nat.le_of_ble_eq_true rfl, Nat.le_of_ble_eq_true rfl⟩, c_ci3_0 ⟨rfl, _, rfl, rfl, K, rfl⟩⟩
theorem c_chr0_0 (K : Q (some (.int (nI 103))) h) : m_J_String_charAt.1 [.retAddr 1, .int (nI 0)] h Q := by
  refine (xM_iff (g := g_J_String_charAt) (b := b_J_String_charAt) [.retAddr 1, .int (nI 0)] (Nat.le_of_ble_eq_true rfl) rfl).mpr ?_
  refine ⟨_, rfl, 0, rfl, by omega, ⟨Nat.le_of_ble_eq_true rfl, Nat.le_of_ble_eq_true rfl⟩, c_lat0 ⟨_, rfl, by decide, _, rfl, ?_⟩⟩
  refine Eq.mpr (if_pos (by decide)) ?_
  exact ⟨_, rfl, _, rfl, ⟨Nat.le_of_ble_eq_true rfl, Nat.le_of_ble_eq_true rfl⟩, c_l1_0_0 ⟨_, rfl, by decide, rfl, K, rfl⟩⟩
theorem c_l1_0_1 (K : Q (some (.int (nI 109))) h) : m_J_Latin1_charAt.1 [.retAddr 7, .int (nI 1)] h Q := by
  refine (xM_iff (g := g_J_Latin1_charAt) (b := b_J_Latin1_charAt) [.retAddr 7, .int (nI 1)] (Nat.le_of_ble_eq_true rfl) rfl).mpr ?_
  exact ⟨_, rfl, _, rfl, ⟨Nat.le_of_ble_eq_true rfl, Nat.le_of_ble_eq_true rfl⟩, c_ci3_1 ⟨rfl, _, rfl, rfl, K, rfl⟩⟩
theorem c_chr0_1 (K : Q (some (.int (nI 109))) h) : m_J_String_charAt.1 [.retAddr 1, .int (nI 1)] h Q := by
  refine (xM_iff (g := g_J_String_charAt) (b := b_J_String_charAt) [.retAddr 1, .int (nI 1)] (Nat.le_of_ble_eq_true rfl) rfl).mpr ?_
  refine ⟨_, rfl, 0, rfl, by omega, ⟨Nat.le_of_ble_eq_true rfl, Nat.le_of_ble_eq_true rfl⟩, c_lat0 ⟨_, rfl, by decide, _, rfl, ?_⟩⟩
  refine Eq.mpr (if_pos (by decide)) ?_
  exact ⟨_, rfl, _, rfl, ⟨Nat.le_of_ble_eq_true rfl, Nat.le_of_ble_eq_true rfl⟩, c_l1_0_1 ⟨_, rfl, by decide, rfl, K, rfl⟩⟩
theorem c_l1_0_2 (K : Q (some (.int (nI 105))) h) : m_J_Latin1_charAt.1 [.retAddr 7, .int (nI 2)] h Q := by
  refine (xM_iff (g := g_J_Latin1_charAt) (b := b_J_Latin1_charAt) [.retAddr 7, .int (nI 2)] (Nat.le_of_ble_eq_true rfl) rfl).mpr ?_
  exact ⟨_, rfl, _, rfl, ⟨Nat.le_of_ble_eq_true rfl, Nat.le_of_ble_eq_true rfl⟩, c_ci3_2 ⟨rfl, _, rfl, rfl, K, rfl⟩⟩
theorem c_chr0_2 (K : Q (some (.int (nI 105))) h) : m_J_String_charAt.1 [.retAddr 1, .int (nI 2)] h Q := by
  refine (xM_iff (g := g_J_String_charAt) (b := b_J_String_charAt) [.retAddr 1, .int (nI 2)] (Nat.le_of_ble_eq_true rfl) rfl).mpr ?_
  refine ⟨_, rfl, 0, rfl, by omega, ⟨Nat.le_of_ble_eq_true rfl, Nat.le_of_ble_eq_true rfl⟩, c_lat0 ⟨_, rfl, by decide, _, rfl, ?_⟩⟩
  refine Eq.mpr (if_pos (by decide)) ?_
  exact ⟨_, rfl, _, rfl, ⟨Nat.le_of_ble_eq_true rfl, Nat.le_of_ble_eq_true rfl⟩, c_l1_0_2 ⟨_, rfl, by decide, rfl, K, rfl⟩⟩
theorem c_coder1 (K : Q (some (.int (nI 0))) h) : m_J_String_coder.1 [.retAddr 2] h Q := by
  refine (xM_iff (g := g_J_String_coder) (b := b_J_String_coder) [.retAddr 2] (Nat.le_of_ble_eq_true rfl) rfl).mpr ?_
  exact ⟨_, rfl, rfl, K, rfl⟩
theorem c_lat1 (K : Q (some (.int (nI 1))) h) : m_J_String_isLatin1.1 [.retAddr 2] h Q := by
  refine (xM_iff (g := g_J_String_isLatin1) (b := b_J_String_isLatin1) [.retAddr 2] (Nat.le_of_ble_eq_true rfl) rfl).mpr ?_
  exact ⟨_, rfl, rfl, K, Or.inr rfl⟩
theorem c_len1 (K : Q (some (.int (nI 4))) h) : m_J_String_length.1 [.retAddr 2] h Q := by
  refine (xM_iff (g := g_J_String_length) (b := b_J_String_length) [.retAddr 2] (Nat.le_of_ble_eq_true rfl) rfl).mpr ?_
  exact ⟨_, rfl, _, rfl, 1, rfl, by omega, ⟨Nat.le_of_ble_eq_true rfl, Nat.le_of_ble_eq_true rfl⟩, c_coder1 ⟨_, rfl, by decide, _, rfl, rfl, K, trivial⟩⟩
theorem c_l1_1_0 (K : Q (some (.int (nI 102))) h) : m_J_Latin1_charAt.1 [.retAddr 8, .int (nI 0)] h Q := by
  refine (xM_iff (g := g_J_Latin1_charAt) (b := b_J_Latin1_charAt) [.retAddr 8, .int (nI 0)] (Nat.le_of_ble_eq_true rfl) rfl).mpr ?_
  exact ⟨_, rfl, _, rfl, ⟨Nat.le_of_ble_eq_true rfl, Nat.le_of_ble_eq_true rfl⟩, c_ci4_0 ⟨rfl, _, rfl, rfl, K, rfl⟩⟩
theorem c_chr1_0 (K : Q (some (.int (nI 102))) h) : m_J_String_charAt.1 [.retAddr 2, .int (nI 0)] h Q := by
  refine (xM_iff (g := g_J_String_charAt) (b := b_J_String_charAt) [.retAddr 2, .int (nI 0)] (Nat.le_of_ble_eq_true rfl) rfl).mpr ?_
  refine ⟨_, rfl, 1, rfl, by omega, ⟨Nat.le_of_ble_eq_true rfl, Nat.le_of_ble_eq_true rfl⟩, c_lat1 ⟨_, rfl, by decide, _, rfl, ?_⟩⟩
  refine Eq.mpr (if_pos (by decide)) ?_
  exact ⟨_, rfl, _, rfl, ⟨Nat.le_of_ble_eq_true rfl, Nat.le_of_ble_eq_true rfl⟩, c_l1_1_0 ⟨_, rfl, by decide, rfl, K, rfl⟩⟩
theorem c_l1_1_1 (K : Q (some (.int (nI 114))) h) : m_J_Latin1_charAt.1 [.retAddr 8, .int (nI 1)] h Q := by
  refine (xM_iff (g := g_J_Latin1_charAt) (b := b_J_Latin1_charAt) [.retAddr 8, .int (nI 1)] (Nat.le_of_ble_eq_true rfl) rfl).mpr ?_
  exact ⟨_, rfl, _, rfl, ⟨Nat.le_of_ble_eq_true rfl, Nat.le_of_ble_eq_true rfl⟩, c_ci4_1 ⟨rfl, _, rfl, rfl, K, rfl⟩⟩
theorem c_chr1_1 (K : Q (some (.int (nI 114))) h) : m_J_String_charAt.1 [.retAddr 2, .int (nI 1)] h Q := by
  refine (xM_iff (g := g_J_String_charAt) (b := b_J_String_charAt) [.retAddr 2, .int (nI 1)] (Nat.le_of_ble_eq_true rfl) rfl).mpr ?_
  refine ⟨_, rfl, 1, rfl, by omega, ⟨Nat.le_of_ble_eq_true rfl, Nat.le_of_ble_eq_true rfl⟩, c_lat1 ⟨_, rfl, by decide, _, rfl, ?_⟩⟩
  refine Eq.mpr (if_pos (by decide)) ?_
  exact ⟨_, rfl, _, rfl, ⟨Nat.le_of_ble_eq_true rfl, Nat.le_of_ble_eq_true rfl⟩, c_l1_1_1 ⟨_, rfl, by decide, rfl, K, rfl⟩⟩
theorem c_l1_1_2 (K : Q (some (.int (nI 97))) h) : m_J_Latin1_charAt.1 [.retAddr 8, .int (nI 2)] h Q := by
  refine (xM_iff (g := g_J_Latin1_charAt) (b := b_J_Latin1_charAt) [.retAddr 8, .int (nI 2)] (Nat.le_of_ble_eq_true rfl) rfl).mpr ?_
  exact ⟨_, rfl, _, rfl, ⟨Nat.le_of_ble_eq_true rfl, Nat.le_of_ble_eq_true rfl⟩, c_ci4_2 ⟨rfl, _, rfl, rfl, K, rfl⟩⟩
theorem c_chr1_2 (K : Q (some (.int (nI 97))) h) : m_J_String_charAt.1 [.retAddr 2, .int (nI 2)] h Q := by
  refine (xM_iff (g := g_J_String_charAt) (b := b_J_String_charAt) [.retAddr 2, .int (nI 2)] (Nat.le_of_ble_eq_true rfl) rfl).mpr ?_
  refine ⟨_, rfl, 1, rfl, by omega, ⟨Nat.le_of_ble_eq_true rfl, Nat.le_of_ble_eq_true rfl⟩, c_lat1 ⟨_, rfl, by decide, _, rfl, ?_⟩⟩
  refine Eq.mpr (if_pos (by decide)) ?_
  exact ⟨_, rfl, _, rfl, ⟨Nat.le_of_ble_eq_true rfl, Nat.le_of_ble_eq_true rfl⟩, c_l1_1_2 ⟨_, rfl, by decide, rfl, K, rfl⟩⟩
theorem c_l1_1_3 (K : Q (some (.int (nI 99))) h) : m_J_Latin1_charAt.1 [.retAddr 8, .int (nI 3)] h Q := by
  refine (xM_iff (g := g_J_Latin1_charAt) (b := b_J_Latin1_charAt) [.retAddr 8, .int (nI 3)] (Nat.le_of_ble_eq_true rfl) rfl).mpr ?_
  exact ⟨_, rfl, _, rfl, ⟨Nat.le_of_ble_eq_true rfl, Nat.le_of_ble_eq_true rfl⟩, c_ci4_3 ⟨rfl, _, rfl, rfl, K, rfl⟩⟩
theorem c_chr1_3 (K : Q (some (.int (nI 99))) h) : m_J_String_charAt.1 [.retAddr 2, .int (nI 3)] h Q := by
  refine (xM_iff (g := g_J_String_charAt) (b := b_J_String_charAt) [.retAddr 2, .int (nI 3)] (Nat.le_of_ble_eq_true rfl) rfl).mpr ?_
  refine ⟨_, rfl, 1, rfl, by omega, ⟨Nat.le_of_ble_eq_true rfl, Nat.le_of_ble_eq_true rfl⟩, c_lat1 ⟨_, rfl, by decide, _, rfl, ?_⟩⟩
  refine Eq.mpr (if_pos (by decide)) ?_
  exact ⟨_, rfl, _, rfl, ⟨Nat.le_of_ble_eq_true rfl, Nat.le_of_ble_eq_true rfl⟩, c_l1_1_3 ⟨_, rfl, by decide, rfl, K, rfl⟩⟩
theorem c_coder2 (K : Q (some (.int (nI 0))) h) : m_J_String_coder.1 [.retAddr 3] h Q := by
  refine (xM_iff (g := g_J_String_coder) (b := b_J_String_coder) [.retAddr 3] (Nat.le_of_ble_eq_true rfl) rfl).mpr ?_
  exact ⟨_, rfl, rfl, K, rfl⟩
theorem c_lat2 (K : Q (some (.int (nI 1))) h) : m_J_String_isLatin1.1 [.retAddr 3] h Q := by
  refine (xM_iff (g := g_J_String_isLatin1) (b := b_J_String_isLatin1) [.retAddr 3] (Nat.le_of_ble_eq_true rfl) rfl).mpr ?_
  exact ⟨_, rfl, rfl, K, Or.inr rfl⟩
theorem c_len2 (K : Q (some (.int (nI 4))) h) : m_J_String_length.1 [.retAddr 3] h Q := by
  refine (xM_iff (g := g_J_String_length) (b := b_J_String_length) [.retAddr 3] (Nat.le_of_ble_eq_true rfl) rfl).mpr ?_
  exact ⟨_, rfl, _, rfl, 2, rfl, by omega, ⟨Nat.le_of_ble_eq_true rfl, Nat.le_of_ble_eq_true rfl⟩, c_coder2 ⟨_, rfl, by decide, _, rfl, rfl, K, trivial⟩⟩
theorem c_l1_2_0 (K : Q (some (.int (nI 115))) h) : m_J_Latin1_charAt.1 [.retAddr 9, .int (nI 0)] h Q := by
  refine (xM_iff (g := g_J_Latin1_charAt) (b := b_J_Latin1_charAt) [.retAddr 9, .int (nI 0)] (Nat.le_of_ble_eq_true rfl) rfl).mpr ?_
  exact ⟨_, rfl, _, rfl, ⟨Nat.le_of_ble_eq_true rfl, Nat.le_of_ble_eq_true rfl⟩, c_ci4_0 ⟨rfl, _, rfl, rfl, K, rfl⟩⟩
theorem c_chr2_0 (K : Q (some (.int (nI 115))) h) : m_J_String_charAt.1 [.retAddr 3, .int (nI 0)] h Q := by
  refine (xM_iff (g := g_J_String_charAt) (b := b_J_String_charAt) [.retAddr 3, .int (nI 0)] (Nat.le_of_ble_eq_true rfl) rfl).mpr ?_
  refine ⟨_, rfl, 2, rfl, by omega, ⟨Nat.le_of_ble_eq_true rfl, Nat.le_of_ble_eq_true rfl⟩, c_lat2 ⟨_, rfl, by decide, _, rfl, ?_⟩⟩
  refine Eq.mpr (if_pos (by decide)) ?_
  exact ⟨_, rfl, _, rfl, ⟨Nat.le_of_ble_eq_true rfl, Nat.le_of_ble_eq_true rfl⟩, c_l1_2_0 ⟨_, rfl, by decide, rfl, K, rfl⟩⟩
theorem c_l1_2_1 (K : Q (some (.int (nI 116))) h) : m_J_Latin1_charAt.1 [.retAddr 9, .int (nI 1)] h Q := by
  refine (xM_iff (g := g_J_Latin1_charAt) (b := b_J_Latin1_charAt) [.retAddr 9, .int (nI 1)] (Nat.le_of_ble_eq_true rfl) rfl).mpr ?_
  exact ⟨_, rfl, _, rfl, ⟨Nat.le_of_ble_eq_true rfl, Nat.le_of_ble_eq_true rfl⟩, c_ci4_1 ⟨rfl, _, rfl, rfl, K, rfl⟩⟩
theorem c_chr2_1 (K : Q (some (.int (nI 116))) h) : m_J_String_charAt.1 [.retAddr 3, .int (nI 1)] h Q := by
  refine (xM_iff (g := g_J_String_charAt) (b := b_J_String_charAt) [.retAddr 3, .int (nI 1)] (Nat.le_of_ble_eq_true rfl) rfl).mpr ?_
  refine ⟨_, rfl, 2, rfl, by omega, ⟨Nat.le_of_ble_eq_true rfl, Nat.le_of_ble_eq_true rfl⟩, c_lat2 ⟨_, rfl, by decide, _, rfl, ?_⟩⟩
  refine Eq.mpr (if_pos (by decide)) ?_
  exact ⟨_, rfl, _, rfl, ⟨Nat.le_of_ble_eq_true rfl, Nat.le_of_ble_eq_true rfl⟩, c_l1_2_1 ⟨_, rfl, by decide, rfl, K, rfl⟩⟩
theorem c_l1_2_2 (K : Q (some (.int (nI 101))) h) : m_J_Latin1_charAt.1 [.retAddr 9, .int (nI 2)] h Q := by
  refine (xM_iff (g := g_J_Latin1_charAt) (b := b_J_Latin1_charAt) [.retAddr 9, .int (nI 2)] (Nat.le_of_ble_eq_true rfl) rfl).mpr ?_
  exact ⟨_, rfl, _, rfl, ⟨Nat.le_of_ble_eq_true rfl, Nat.le_of_ble_eq_true rfl⟩, c_ci4_2 ⟨rfl, _, rfl, rfl, K, rfl⟩⟩
theorem c_chr2_2 (K : Q (some (.int (nI 101))) h) : m_J_String_charAt.1 [.retAddr 3, .int (nI 2)] h Q := by
  refine (xM_iff (g := g_J_String_charAt) (b := b_J_String_charAt) [.retAddr 3, .int (nI 2)] (Nat.le_of_ble_eq_true rfl) rfl).mpr ?_
  refine ⟨_, rfl, 2, rfl, by omega, ⟨Nat.le_of_ble_eq_true rfl, Nat.le_of_ble_eq_true rfl⟩, c_lat2 ⟨_, rfl, by decide, _, rfl, ?_⟩⟩
  refine Eq.mpr (if_pos (by decide)) ?_
  exact ⟨_, rfl, _, rfl, ⟨Nat.le_of_ble_eq_true rfl, Nat.le_of_ble_eq_true rfl⟩, c_l1_2_2 ⟨_, rfl, by decide, rfl, K, rfl⟩⟩
theorem c_l1_2_3 (K : Q (some (.int (nI 112))) h) : m_J_Latin1_charAt.1 [.retAddr 9, .int (nI 3)] h Q := by
  refine (xM_iff (g := g_J_Latin1_charAt) (b := b_J_Latin1_charAt) [.retAddr 9, .int (nI 3)] (Nat.le_of_ble_eq_true rfl) rfl).mpr ?_
  exact ⟨_, rfl, _, rfl, ⟨Nat.le_of_ble_eq_true rfl, Nat.le_of_ble_eq_true rfl⟩, c_ci4_3 ⟨rfl, _, rfl, rfl, K, rfl⟩⟩
theorem c_chr2_3 (K : Q (some (.int (nI 112))) h) : m_J_String_charAt.1 [.retAddr 3, .int (nI 3)] h Q := by
  refine (xM_iff (g := g_J_String_charAt) (b := b_J_String_charAt) [.retAddr 3, .int (nI 3)] (Nat.le_of_ble_eq_true rfl) rfl).mpr ?_
  refine ⟨_, rfl, 2, rfl, by omega, ⟨Nat.le_of_ble_eq_true rfl, Nat.le_of_ble_eq_true rfl⟩, c_lat2 ⟨_, rfl, by decide, _, rfl, ?_⟩⟩
  refine Eq.mpr (if_pos (by decide)) ?_
  exact ⟨_, rfl, _, rfl, ⟨Nat.le_of_ble_eq_true rfl, Nat.le_of_ble_eq_true rfl⟩, c_l1_2_3 ⟨_, rfl, by decide, rfl, K, rfl⟩⟩
theorem c_coder3 (K : Q (some (.int (nI 0))) h) : m_J_String_coder.1 [.retAddr 4] h Q := by
  refine (xM_iff (g := g_J_String_coder) (b := b_J_String_coder) [.retAddr 4] (Nat.le_of_ble_eq_true rfl) rfl).mpr ?_
  exact ⟨_, rfl, rfl, K, rfl⟩
theorem c_lat3 (K : Q (some (.int (nI 1))) h) : m_J_String_isLatin1.1 [.retAddr 4] h Q := by
  refine (xM_iff (g := g_J_String_isLatin1) (b := b_J_String_isLatin1) [.retAddr 4] (Nat.le_of_ble_eq_true rfl) rfl).mpr ?_
  exact ⟨_, rfl, rfl, K, Or.inr rfl⟩
theorem c_len3 (K : Q (some (.int (nI 4))) h) : m_J_String_length.1 [.retAddr 4] h Q := by
  refine (xM_iff (g := g_J_String_length) (b := b_J_String_length) [.retAddr 4] (Nat.le_of_ble_eq_true rfl) rfl).mpr ?_
  exact ⟨_, rfl, _, rfl, 3, rfl, by omega, ⟨Nat.le_of_ble_eq_true rfl, Nat.le_of_ble_eq_true rfl⟩, c_coder3 ⟨_, rfl, by decide, _, rfl, rfl, K, trivial⟩⟩
theorem c_l1_3_0 (K : Q (some (.int (nI 98))) h) : m_J_Latin1_charAt.1 [.retAddr 10, .int (nI 0)] h Q := by
  refine (xM_iff (g := g_J_Latin1_charAt) (b := b_J_Latin1_charAt) [.retAddr 10, .int (nI 0)] (Nat.le_of_ble_eq_true rfl) rfl).mpr ?_
  exact ⟨_, rfl, _, rfl, ⟨Nat.le_of_ble_eq_true rfl, Nat.le_of_ble_eq_true rfl⟩, c_ci4_0 ⟨rfl, _, rfl, rfl, K, rfl⟩⟩
theorem c_chr3_0 (K : Q (some (.int (nI 98))) h) : m_J_String_charAt.1 [.retAddr 4, .int (nI 0)] h Q := by
  refine (xM_iff (g := g_J_String_charAt) (b := b_J_String_charAt) [.retAddr 4, .int (nI 0)] (Nat.le_of_ble_eq_true rfl) rfl).mpr ?_
  refine ⟨_, rfl, 3, rfl, by omega, ⟨Nat.le_of_ble_eq_true rfl, Nat.le_of_ble_eq_true rfl⟩, c_lat3 ⟨_, rfl, by decide, _, rfl, ?_⟩⟩
  refine Eq.mpr (if_pos (by decide)) ?_
  exact ⟨_, rfl, _, rfl, ⟨Nat.le_of_ble_eq_true rfl, Nat.le_of_ble_eq_true rfl⟩, c_l1_3_0 ⟨_, rfl, by decide, rfl, K, rfl⟩⟩
theorem c_l1_3_1 (K : Q (some (.int (nI 111))) h) : m_J_Latin1_charAt.1 [.retAddr 10, .int (nI 1)] h Q := by
  refine (xM_iff (g := g_J_Latin1_charAt) (b := b_J_Latin1_charAt) [.retAddr 10, .int (nI 1)] (Nat.le_of_ble_eq_true rfl) rfl).mpr ?_
  exact ⟨_, rfl, _, rfl, ⟨Nat.le_of_ble_eq_true rfl, Nat.le_of_ble_eq_true rfl⟩, c_ci4_1 ⟨rfl, _, rfl, rfl, K, rfl⟩⟩
theorem c_chr3_1 (K : Q (some (.int (nI 111))) h) : m_J_String_charAt.1 [.retAddr 4, .int (nI 1)] h Q := by
  refine (xM_iff (g := g_J_String_charAt) (b := b_J_String_charAt) [.retAddr 4, .int (nI 1)] (Nat.le_of_ble_eq_true rfl) rfl).mpr ?_
  refine ⟨_, rfl, 3, rfl, by omega, ⟨Nat.le_of_ble_eq_true rfl, Nat.le_of_ble_eq_true rfl⟩, c_lat3 ⟨_, rfl, by decide, _, rfl, ?_⟩⟩
  refine Eq.mpr (if_pos (by decide)) ?_
  exact ⟨_, rfl, _, rfl, ⟨Nat.le_of_ble_eq_true rfl, Nat.le_of_ble_eq_true rfl⟩, c_l1_3_1 ⟨_, rfl, by decide, rfl, K, rfl⟩⟩
theorem c_l1_3_2 (K : Q (some (.int (nI 116))) h) : m_J_Latin1_charAt.1 [.retAddr 10, .int (nI 2)] h Q := by
  refine (xM_iff (g := g_J_Latin1_charAt) (b := b_J_Latin1_charAt) [.retAddr 10, .int (nI 2)] (Nat.le_of_ble_eq_true rfl) rfl).mpr ?_
  exact ⟨_, rfl, _, rfl, ⟨Nat.le_of_ble_eq_true rfl, Nat.le_of_ble_eq_true rfl⟩, c_ci4_2 ⟨rfl, _, rfl, rfl, K, rfl⟩⟩
theorem c_chr3_2 (K : Q (some (.int (nI 116))) h) : m_J_String_charAt.1 [.retAddr 4, .int (nI 2)] h Q := by
  refine (xM_iff (g := g_J_String_charAt) (b := b_J_String_charAt) [.retAddr 4, .int (nI 2)] (Nat.le_of_ble_eq_true rfl) rfl).mpr ?_
  refine ⟨_, rfl, 3, rfl, by omega, ⟨Nat.le_of_ble_eq_true rfl, Nat.le_of_ble_eq_true rfl⟩, c_lat3 ⟨_, rfl, by decide, _, rfl, ?_⟩⟩
  refine Eq.mpr (if_pos (by decide)) ?_
  exact ⟨_, rfl, _, rfl, ⟨Nat.le_of_ble_eq_true rfl, Nat.le_of_ble_eq_true rfl⟩, c_l1_3_2 ⟨_, rfl, by decide, rfl, K, rfl⟩⟩
theorem c_l1_3_3 (K : Q (some (.int (nI 104))) h) : m_J_Latin1_charAt.1 [.retAddr 10, .int (nI 3)] h Q := by
  refine (xM_iff (g := g_J_Latin1_charAt) (b := b_J_Latin1_charAt) [.retAddr 10, .int (nI 3)] (Nat.le_of_ble_eq_true rfl) rfl).mpr ?_
  exact ⟨_, rfl, _, rfl, ⟨Nat.le_of_ble_eq_true rfl, Nat.le_of_ble_eq_true rfl⟩, c_ci4_3 ⟨rfl, _, rfl, rfl, K, rfl⟩⟩
theorem c_chr3_3 (K : Q (some (.int (nI 104))) h) : m_J_String_charAt.1 [.retAddr 4, .int (nI 3)] h Q := by
  refine (xM_iff (g := g_J_String_charAt) (b := b_J_String_charAt) [.retAddr 4, .int (nI 3)] (Nat.le_of_ble_eq_true rfl) rfl).mpr ?_
  refine ⟨_, rfl, 3, rfl, by omega, ⟨Nat.le_of_ble_eq_true rfl, Nat.le_of_ble_eq_true rfl⟩, c_lat3 ⟨_, rfl, by decide, _, rfl, ?_⟩⟩
  refine Eq.mpr (if_pos (by decide)) ?_
  exact ⟨_, rfl, _, rfl, ⟨Nat.le_of_ble_eq_true rfl, Nat.le_of_ble_eq_true rfl⟩, c_l1_3_3 ⟨_, rfl, by decide, rfl, K, rfl⟩⟩
theorem c_coder4 (K : Q (some (.int (nI 0))) h) : m_J_String_coder.1 [.retAddr 5] h Q := by
  refine (xM_iff (g := g_J_String_coder) (b := b_J_String_coder) [.retAddr 5] (Nat.le_of_ble_eq_true rfl) rfl).mpr ?_
  exact ⟨_, rfl, rfl, K, rfl⟩
theorem c_lat4 (K : Q (some (.int (nI 1))) h) : m_J_String_isLatin1.1 [.retAddr 5] h Q := by
  refine (xM_iff (g := g_J_String_isLatin1) (b := b_J_String_isLatin1) [.retAddr 5] (Nat.le_of_ble_eq_true rfl) rfl).mpr ?_
  exact ⟨_, rfl, rfl, K, Or.inr rfl⟩
theorem c_len4 (K : Q (some (.int (nI 4))) h) : m_J_String_length.1 [.retAddr 5] h Q := by
  refine (xM_iff (g := g_J_String_length) (b := b_J_String_length) [.retAddr 5] (Nat.le_of_ble_eq_true rfl) rfl).mpr ?_
  exact ⟨_, rfl, _, rfl, 4, rfl, by omega, ⟨Nat.le_of_ble_eq_true rfl, Nat.le_of_ble_eq_true rfl⟩, c_coder4 ⟨_, rfl, by decide, _, rfl, rfl, K, trivial⟩⟩
theorem c_l1_4_0 (K : Q (some (.int (nI 104))) h) : m_J_Latin1_charAt.1 [.retAddr 11, .int (nI 0)] h Q := by
  refine (xM_iff (g := g_J_Latin1_charAt) (b := b_J_Latin1_charAt) [.retAddr 11, .int (nI 0)] (Nat.le_of_ble_eq_true rfl) rfl).mpr ?_
  exact ⟨_, rfl, _, rfl, ⟨Nat.le_of_ble_eq_true rfl, Nat.le_of_ble_eq_true rfl⟩, c_ci4_0 ⟨rfl, _, rfl, rfl, K, rfl⟩⟩
theorem c_chr4_0 (K : Q (some (.int (nI 104))) h) : m_J_String_charAt.1 [.retAddr 5, .int (nI 0)] h Q := by
  refine (xM_iff (g := g_J_String_charAt) (b := b_J_String_charAt) [.retAddr 5, .int (nI 0)] (Nat.le_of_ble_eq_true rfl) rfl).mpr ?_
  refine ⟨_, rfl, 4, rfl, by omega, ⟨Nat.le_of_ble_eq_true rfl, Nat.le_of_ble_eq_true rfl⟩, c_lat4 ⟨_, rfl, by decide, _, rfl, ?_⟩⟩
  refine Eq.mpr (if_pos (by decide)) ?_
  exact ⟨_, rfl, _, rfl, ⟨Nat.le_of_ble_eq_true rfl, Nat.le_of_ble_eq_true rfl⟩, c_l1_4_0 ⟨_, rfl, by decide, rfl, K, rfl⟩⟩
theorem c_l1_4_1 (K : Q (some (.int (nI 117))) h) : m_J_Latin1_charAt.1 [.retAddr 11, .int (nI 1)] h Q := by
  refine (xM_iff (g := g_J_Latin1_charAt) (b := b_J_Latin1_charAt) [.retAddr 11, .int (nI 1)] (Nat.le_of_ble_eq_true rfl) rfl).mpr ?_
  exact ⟨_, rfl, _, rfl, ⟨Nat.le_of_ble_eq_true rfl, Nat.le_of_ble_eq_true rfl⟩, c_ci4_1 ⟨rfl, _, rfl, rfl, K, rfl⟩⟩
theorem c_chr4_1 (K : Q (some (.int (nI 117))) h) : m_J_String_charAt.1 [.retAddr 5, .int (nI 1)] h Q := by
  refine (xM_iff (g := g_J_String_charAt) (b := b_J_String_charAt) [.retAddr 5, .int (nI 1)] (Nat.le_of_ble_eq_true rfl) rfl).mpr ?_
  refine ⟨_, rfl, 4, rfl, by omega, ⟨Nat.le_of_ble_eq_true rfl, Nat.le_of_ble_eq_true rfl⟩, c_lat4 ⟨_, rfl, by decide, _, rfl, ?_⟩⟩
  refine Eq.mpr (if_pos (by decide)) ?_
  exact ⟨_, rfl, _, rfl, ⟨Nat.le_of_ble_eq_true rfl, Nat.le_of_ble_eq_true rfl⟩, c_l1_4_1 ⟨_, rfl, by decide, rfl, K, rfl⟩⟩
theorem c_l1_4_2 (K : Q (some (.int (nI 108))) h) : m_J_Latin1_charAt.1 [.retAddr 11, .int (nI 2)] h Q := by
  refine (xM_iff (g := g_J_Latin1_charAt) (b := b_J_Latin1_charAt) [.retAddr 11, .int (nI 2)] (Nat.le_of_ble_eq_true rfl) rfl).mpr ?_
  exact ⟨_, rfl, _, rfl, ⟨Nat.le_of_ble_eq_true rfl, Nat.le_of_ble_eq_true rfl⟩, c_ci4_2 ⟨rfl, _, rfl, rfl, K, rfl⟩⟩
theorem c_chr4_2 (K : Q (some (.int (nI 108))) h) : m_J_String_charAt.1 [.retAddr 5, .int (nI 2)] h Q := by
  refine (xM_iff (g := g_J_String_charAt) (b := b_J_String_charAt) [.retAddr 5, .int (nI 2)] (Nat.le_of_ble_eq_true rfl) rfl).mpr ?_
  refine ⟨_, rfl, 4, rfl, by omega, ⟨Nat.le_of_ble_eq_true rfl, Nat.le_of_ble_eq_true rfl⟩, c_lat4 ⟨_, rfl, by decide, _, rfl, ?_⟩⟩
  refine Eq.mpr (if_pos (by decide)) ?_
  exact ⟨_, rfl, _, rfl, ⟨Nat.le_of_ble_eq_true rfl, Nat.le_of_ble_eq_true rfl⟩, c_l1_4_2 ⟨_, rfl, by decide, rfl, K, rfl⟩⟩
theorem c_l1_4_3 (K : Q (some (.int (nI 108))) h) : m_J_Latin1_charAt.1 [.retAddr 11, .int (nI 3)] h Q := by
  refine (xM_iff (g := g_J_Latin1_charAt) (b := b_J_Latin1_charAt) [.retAddr 11, .int (nI 3)] (Nat.le_of_ble_eq_true rfl) rfl).mpr ?_
  exact ⟨_, rfl, _, rfl, ⟨Nat.le_of_ble_eq_true rfl, Nat.le_of_ble_eq_true rfl⟩, c_ci4_3 ⟨rfl, _, rfl, rfl, K, rfl⟩⟩
theorem c_chr4_3 (K : Q (some (.int (nI 108))) h) : m_J_String_charAt.1 [.retAddr 5, .int (nI 3)] h Q := by
  refine (xM_iff (g := g_J_String_charAt) (b := b_J_String_charAt) [.retAddr 5, .int (nI 3)] (Nat.le_of_ble_eq_true rfl) rfl).mpr ?_
  refine ⟨_, rfl, 4, rfl, by omega, ⟨Nat.le_of_ble_eq_true rfl, Nat.le_of_ble_eq_true rfl⟩, c_lat4 ⟨_, rfl, by decide, _, rfl, ?_⟩⟩
  refine Eq.mpr (if_pos (by decide)) ?_
  exact ⟨_, rfl, _, rfl, ⟨Nat.le_of_ble_eq_true rfl, Nat.le_of_ble_eq_true rfl⟩, c_l1_4_3 ⟨_, rfl, by decide, rfl, K, rfl⟩⟩
theorem c_coder5 (K : Q (some (.int (nI 0))) h) : m_J_String_coder.1 [.retAddr 6] h Q := by
  refine (xM_iff (g := g_J_String_coder) (b := b_J_String_coder) [.retAddr 6] (Nat.le_of_ble_eq_true rfl) rfl).mpr ?_
  exact ⟨_, rfl, rfl, K, rfl⟩
theorem c_lat5 (K : Q (some (.int (nI 1))) h) : m_J_String_isLatin1.1 [.retAddr 6] h Q := by
  refine (xM_iff (g := g_J_String_isLatin1) (b := b_J_String_isLatin1) [.retAddr 6] (Nat.le_of_ble_eq_true rfl) rfl).mpr ?_
  exact ⟨_, rfl, rfl, K, Or.inr rfl⟩
theorem c_len5 (K : Q (some (.int (nI 4))) h) : m_J_String_length.1 [.retAddr 6] h Q := by
  refine (xM_iff (g := g_J_String_length) (b := b_J_String_length) [.retAddr 6] (Nat.le_of_ble_eq_true rfl) rfl).mpr ?_
  exact ⟨_, rfl, _, rfl, 5, rfl, by omega, ⟨Nat.le_of_ble_eq_true rfl, Nat.le_of_ble_eq_true rfl⟩, c_coder5 ⟨_, rfl, by decide, _, rfl, rfl, K, trivial⟩⟩
theorem c_l1_5_0 (K : Q (some (.int (nI 116))) h) : m_J_Latin1_charAt.1 [.retAddr 12, .int (nI 0)] h Q := by
  refine (xM_iff (g := g_J_Latin1_charAt) (b := b_J_Latin1_charAt) [.retAddr 12, .int (nI 0)] (Nat.le_of_ble_eq_true rfl) rfl).mpr ?_
  exact ⟨_, rfl, _, rfl, ⟨Nat.le_of_ble_eq_true rfl, Nat.le_of_ble_eq_true rfl⟩, c_ci4_0 ⟨rfl, _, rfl, rfl, K, rfl⟩⟩
theorem c_chr5_0 (K : Q (some (.int (nI 116))) h) : m_J_String_charAt.1 [.retAddr 6, .int (nI 0)] h Q := by
  refine (xM_iff (g := g_J_String_charAt) (b := b_J_String_charAt) [.retAddr 6, .int (nI 0)] (Nat.le_of_ble_eq_true rfl) rfl).mpr ?_
  refine ⟨_, rfl, 5, rfl, by omega, ⟨Nat.le_of_ble_eq_true rfl, Nat.le_of_ble_eq_true rfl⟩, c_lat5 ⟨_, rfl, by decide, _, rfl, ?_⟩⟩
  refine Eq.mpr (if_pos (by decide)) ?_
  exact ⟨_, rfl, _, rfl, ⟨Nat.le_of_ble_eq_true rfl, Nat.le_of_ble_eq_true rfl⟩, c_l1_5_0 ⟨_, rfl, by decide, rfl, K, rfl⟩⟩
theorem c_l1_5_1 (K : Q (some (.int (nI 111))) h) : m_J_Latin1_charAt.1 [.retAddr 12, .int (nI 1)] h Q := by
  refine (xM_iff (g := g_J_Latin1_charAt) (b := b_J_Latin1_charAt) [.retAddr 12, .int (nI 1)] (Nat.le_of_ble_eq_true rfl) rfl).mpr ?_
  exact ⟨_, rfl, _, rfl, ⟨Nat.le_of_ble_eq_true rfl, Nat.le_of_ble_eq_true rfl⟩, c_ci4_1 ⟨rfl, _, rfl, rfl, K, rfl⟩⟩
theorem c_chr5_1 (K : Q (some (.int (nI 111))) h) : m_J_String_charAt.1 [.retAddr 6, .int (nI 1)] h Q := by
  refine (xM_iff (g := g_J_String_charAt) (b := b_J_String_charAt) [.retAddr 6, .int (nI 1)] (Nat.le_of_ble_eq_true rfl) rfl).mpr ?_
  refine ⟨_, rfl, 5, rfl, by omega, ⟨Nat.le_of_ble_eq_true rfl, Nat.le_of_ble_eq_true rfl⟩, c_lat5 ⟨_, rfl, by decide, _, rfl, ?_⟩⟩
  refine Eq.mpr (if_pos (by decide)) ?_
  exact ⟨_, rfl, _, rfl, ⟨Nat.le_of_ble_eq_true rfl, Nat.le_of_ble_eq_true rfl⟩, c_l1_5_1 ⟨_, rfl, by decide, rfl, K, rfl⟩⟩
theorem c_l1_5_2 (K : Q (some (.int (nI 108))) h) : m_J_Latin1_charAt.1 [.retAddr 12, .int (nI 2)] h Q := by
  refine (xM_iff (g := g_J_Latin1_charAt) (b := b_J_Latin1_charAt) [.retAddr 12, .int (nI 2)] (Nat.le_of_ble_eq_true rfl) rfl).mpr ?_
  exact ⟨_, rfl, _, rfl, ⟨Nat.le_of_ble_eq_true rfl, Nat.le_of_ble_eq_true rfl⟩, c_ci4_2 ⟨rfl, _, rfl, rfl, K, rfl⟩⟩
theorem c_chr5_2 (K : Q (some (.int (nI 108))) h) : m_J_String_charAt.1 [.retAddr 6, .int (nI 2)] h Q := by
  refine (xM_iff (g := g_J_String_charAt) (b := b_J_String_charAt) [.retAddr 6, .int (nI 2)] (Nat.le_of_ble_eq_true rfl) rfl).mpr ?_
  refine ⟨_, rfl, 5, rfl, by omega, ⟨Nat.le_of_ble_eq_true rfl, Nat.le_of_ble_eq_true rfl⟩, c_lat5 ⟨_, rfl, by decide, _, rfl, ?_⟩⟩
  refine Eq.mpr (if_pos (by decide)) ?_
  exact ⟨_, rfl, _, rfl, ⟨Nat.le_of_ble_eq_true rfl, Nat.le_of_ble_eq_true rfl⟩, c_l1_5_2 ⟨_, rfl, by decide, rfl, K, rfl⟩⟩
theorem c_l1_5_3 (K : Q (some (.int (nI 100))) h) : m_J_Latin1_charAt.1 [.retAddr 12, .int (nI 3)] h Q := by
  refine (xM_iff (g := g_J_Latin1_charAt) (b := b_J_Latin1_charAt) [.retAddr 12, .int (nI 3)] (Nat.le_of_ble_eq_true rfl) rfl).mpr ?_
  exact ⟨_, rfl, _, rfl, ⟨Nat.le_of_ble_eq_true rfl, Nat.le_of_ble_eq_true rfl⟩, c_ci4_3 ⟨rfl, _, rfl, rfl, K, rfl⟩⟩
theorem c_chr5_3 (K : Q (some (.int (nI 100))) h) : m_J_String_charAt.1 [.retAddr 6, .int (nI 3)] h Q := by
  refine (xM_iff (g := g_J_String_charAt) (b := b_J_String_charAt) [.retAddr 6, .int (nI 3)] (Nat.le_of_ble_eq_true rfl) rfl).mpr ?_
  refine ⟨_, rfl, 5, rfl, by omega, ⟨Nat.le_of_ble_eq_true rfl, Nat.le_of_ble_eq_true rfl⟩, c_lat5 ⟨_, rfl, by decide, _, rfl, ?_⟩⟩
  refine Eq.mpr (if_pos (by decide)) ?_
  exact ⟨_, rfl, _, rfl, ⟨Nat.le_of_ble_eq_true rfl, Nat.le_of_ble_eq_true rfl⟩, c_l1_5_3 ⟨_, rfl, by decide, rfl, K, rfl⟩⟩
end
