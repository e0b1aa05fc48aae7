/-! where both stand when they are made -/
set_option maxRecDepth 20000
def τ0 : XS := (fun a => if a = 0 then (fun k => if k = 13 then -nI 1 else nI 0) else if a = 1 then (fun k => if k = 0 then nI 2 else nI 0) else if a = 2 then dgF (fil (fun _ => nI 0) (nI 0) 9) 3 else if a = 3 then fil (fun _ => nI 0) (nI 0) 3 else if a = 71 then (fun k => if k = 3 then -nI 1 else nI 0) else if 97 ≤ a ∧ a < 147 ∧ a % 2 = 1 then (fun k => if k = 4 then -nI 1 else nI 0) else (fun _ => nI 0), fun a => if a = 79 then (fun k => if k = 6 then 9223372036854775807 else 0) else (fun _ => 0), fun a => if a = 6 then fil (fun _ => none) none 8 else if a = 7 then mdf 150 2 else if a = 9 then mdf 11 10 else if a = 95 then vlf 97 25 else (fun _ => none))
def c0 : XC := (0, fun _ => 0)
/-- the class's cells when it is made -/
def pCl : List AC := imL (nI 2) (nI 0) (nI 0) (dgF (fil (fun _ => nI 0) (nI 0) 9) 3) (fil (fun _ => nI 0) (nI 0) 3) (fil (fun _ => none) none 8) 2
theorem pCl_l : pCl.length = 162 := by
  show (tlL ++ mds 150 2).length + 1 + 1 + 1 + 1 + 1 + 1 + 1 + 1 = _
  rw [List.length_append, tlL_l, mds_l]
theorem pCl_c : ∀ a, a < 162 → pCl[a]? = xcl (fun _ => 0) τ0 a
  | 0 => fun _ => rfl
  | 1 => fun _ => rfl
  | 2 => fun _ => rfl
  | 3 => fun _ => rfl
  | 4 => fun _ => rfl
  | 5 => fun _ => rfl
  | 6 => fun _ => rfl
  | 7 => fun _ => rfl
  | 8 => fun _ => rfl
  | 9 => fun _ => rfl
  | 10 => fun _ => rfl
  | 11 => fun _ => rfl
  | 12 => fun _ => rfl
  | 13 => fun _ => rfl
  | 14 => fun _ => rfl
  | 15 => fun _ => rfl
  | 16 => fun _ => rfl
  | 17 => fun _ => rfl
  | 18 => fun _ => rfl
  | 19 => fun _ => rfl
  | 20 => fun _ => rfl
  | 21 => fun _ => rfl
  | 22 => fun _ => rfl
  | 23 => fun _ => rfl
  | 24 => fun _ => rfl
  | 25 => fun _ => rfl
  | 26 => fun _ => rfl
  | 27 => fun _ => rfl
  | 28 => fun _ => rfl
  | 29 => fun _ => rfl
  | 30 => fun _ => rfl
  | 31 => fun _ => rfl
  | 32 => fun _ => rfl
  | 33 => fun _ => rfl
  | 34 => fun _ => rfl
  | 35 => fun _ => rfl
  | 36 => fun _ => rfl
  | 37 => fun _ => rfl
  | 38 => fun _ => rfl
  | 39 => fun _ => rfl
  | 40 => fun _ => rfl
  | 41 => fun _ => rfl
  | 42 => fun _ => rfl
  | 43 => fun _ => rfl
  | 44 => fun _ => rfl
  | 45 => fun _ => rfl
  | 46 => fun _ => rfl
  | 47 => fun _ => rfl
  | 48 => fun _ => rfl
  | 49 => fun _ => rfl
  | 50 => fun _ => rfl
  | 51 => fun _ => rfl
  | 52 => fun _ => rfl
  | 53 => fun _ => rfl
  | 54 => fun _ => rfl
  | 55 => fun _ => rfl
  | 56 => fun _ => rfl
  | 57 => fun _ => rfl
  | 58 => fun _ => rfl
  | 59 => fun _ => rfl
  | 60 => fun _ => rfl
  | 61 => fun _ => rfl
  | 62 => fun _ => rfl
  | 63 => fun _ => rfl
  | 64 => fun _ => rfl
  | 65 => fun _ => rfl
  | 66 => fun _ => rfl
  | 67 => fun _ => rfl
  | 68 => fun _ => rfl
  | 69 => fun _ => rfl
  | 70 => fun _ => rfl
  | 71 => fun _ => rfl
  | 72 => fun _ => rfl
  | 73 => fun _ => rfl
  | 74 => fun _ => rfl
  | 75 => fun _ => rfl
  | 76 => fun _ => rfl
  | 77 => fun _ => rfl
  | 78 => fun _ => rfl
  | 79 => fun _ => rfl
  | 80 => fun _ => rfl
  | 81 => fun _ => rfl
  | 82 => fun _ => rfl
  | 83 => fun _ => rfl
  | 84 => fun _ => rfl
  | 85 => fun _ => rfl
  | 86 => fun _ => rfl
  | 87 => fun _ => rfl
  | 88 => fun _ => rfl
  | 89 => fun _ => rfl
  | 90 => fun _ => rfl
  | 91 => fun _ => rfl
  | 92 => fun _ => rfl
  | 93 => fun _ => rfl
  | 94 => fun _ => rfl
  | 95 => fun _ => rfl
  | 96 => fun _ => rfl
  | 97 => fun _ => rfl
  | 98 => fun _ => rfl
  | 99 => fun _ => rfl
  | 100 => fun _ => rfl
  | 101 => fun _ => rfl
  | 102 => fun _ => rfl
  | 103 => fun _ => rfl
  | 104 => fun _ => rfl
  | 105 => fun _ => rfl
  | 106 => fun _ => rfl
  | 107 => fun _ => rfl
  | 108 => fun _ => rfl
  | 109 => fun _ => rfl
  | 110 => fun _ => rfl
  | 111 => fun _ => rfl
  | 112 => fun _ => rfl
  | 113 => fun _ => rfl
  | 114 => fun _ => rfl
  | 115 => fun _ => rfl
  | 116 => fun _ => rfl
  | 117 => fun _ => rfl
  | 118 => fun _ => rfl
  | 119 => fun _ => rfl
  | 120 => fun _ => rfl
  | 121 => fun _ => rfl
  | 122 => fun _ => rfl
  | 123 => fun _ => rfl
  | 124 => fun _ => rfl
  | 125 => fun _ => rfl
  | 126 => fun _ => rfl
  | 127 => fun _ => rfl
  | 128 => fun _ => rfl
  | 129 => fun _ => rfl
  | 130 => fun _ => rfl
  | 131 => fun _ => rfl
  | 132 => fun _ => rfl
  | 133 => fun _ => rfl
  | 134 => fun _ => rfl
  | 135 => fun _ => rfl
  | 136 => fun _ => rfl
  | 137 => fun _ => rfl
  | 138 => fun _ => rfl
  | 139 => fun _ => rfl
  | 140 => fun _ => rfl
  | 141 => fun _ => rfl
  | 142 => fun _ => rfl
  | 143 => fun _ => rfl
  | 144 => fun _ => rfl
  | 145 => fun _ => rfl
  | 146 => fun _ => rfl
  | 147 => fun _ => rfl
  | 148 => fun _ => rfl
  | 149 => fun _ => rfl
  | 150 => fun _ => rfl
  | 151 => fun _ => rfl
  | 152 => fun _ => rfl
  | 153 => fun _ => rfl
  | 154 => fun _ => rfl
  | 155 => fun _ => rfl
  | 156 => fun _ => rfl
  | 157 => fun _ => rfl
  | 158 => fun _ => rfl
  | 159 => fun _ => rfl
  | 160 => fun _ => rfl
  | 161 => fun _ => rfl
  | a + 162 => fun h => by omega
theorem hp_eq : mk (lh (pCl ++ rfL 162)) σ1 = mkX (mk (lh (pCl ++ rfL 162)) σ1) c0 τ0 := by
  refine Prod.ext ?_ (funext fun a => ?_)
  · show (pCl ++ rfL 162).length = 192 + 4 * 0
    rw [List.length_append, pCl_l]; rfl
  · show (mk (lh (pCl ++ rfL 162)) σ1).2 a = if a < 162 then xcl (fun _ => 0) τ0 a else if a < 192 then (mk (lh (pCl ++ rfL 162)) σ1).2 a else if a < 192 + 4 * 0 then xcl (fun _ => 0) τ0 a else none
    by_cases e1 : a < 162
    · rw [if_pos e1, ← pCl_c a e1]
      show (if 162 ≤ a ∧ a ≤ 191 then mcell σ1 a else (pCl ++ rfL 162)[a]?) = _
      rw [if_neg (by omega), List.getElem?_append_left (by rw [pCl_l]; exact e1)]
    · rw [if_neg e1]
      by_cases e2 : a < 192
      · rw [if_pos e2]
      · rw [if_neg e2, if_neg (by omega)]
        show (if 162 ≤ a ∧ a ≤ 191 then mcell σ1 a else (pCl ++ rfL 162)[a]?) = _
        rw [if_neg (by omega), List.getElem?_eq_none (by rw [List.length_append, pCl_l]; show 162 + 30 ≤ a; omega)]
