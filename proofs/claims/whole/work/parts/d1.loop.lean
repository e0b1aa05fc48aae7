/-! the law's loop -/
section
variable {P : Nat × (Nat → Int32)} {i n0 : Nat} {G : Nat → Nat → Int32} {c : XC} {τ : XS} {σ : MS} {h : AH} {k : Nat × Nat} {N B Ct : xPo} {R : Option Value → AH → Prop}
theorem lcases (hP : P.1 ≤ 4096) (hi : i + 8 ≤ P.1) (k1 : k.1 + 4 ≤ 600000) (k2 : k.2 + 59 ≤ 7302250) (hn0 : n0 = 1000001) (hR : Rl n0 G c τ σ) (K : ∀ k' G' c' τ' σ', k'.1 ≤ k.1 + 4 → k'.2 ≤ k.2 + 59 → c'.1 ≤ c.1 + 1 → Rl n0 G' c' τ' σ' → N [.retAddr 0, .ref 0, .ref 162, .int (nI i)] k' (mkX (mk h σ') c' τ')) : ∀ j : Nat, xbs ((lcs P).drop j) [.retAddr 0, .ref 0, .ref 162, .int (nI i)] k (mkX (mk h σ) c τ) N Ct R
  | 0 => by
    have e : (lcs P).drop 0 = lc0 P :: [lc1 P, lc2 P, lc3 P, lc4 P, lc5 P, lc6 P, lc7 P, lc8 P, lc9 P, lc10 P, lc11 P, lc12 P, lc13 P, lc14 P, lc15 P, lc16 P, lc17 P, lc18 P, lc19 P, lc20 P, lc21 P, lc22 P, lc23 P, lc24 P, lc25 P, lc26 P, lc27 P, lc28 P, lc29 P, lc30 P, lc31 P, lc32 P, lc33 P, lc34 P, lc35 P, lc36 P, lc37 P, lc38 P, lc39 P, lc40 P, lc41 P, lc42 P, lc43 P, lc44 P] := rfl
    rw [e, xbs_c]
    exact lcase0 hP hi (by omega) (by omega) hR (fun G' c' τ' σ' x y => K k G' c' τ' σ' (by omega) (by omega) x y)
  | 1 => by
    have e : (lcs P).drop 1 = lc1 P :: [lc2 P, lc3 P, lc4 P, lc5 P, lc6 P, lc7 P, lc8 P, lc9 P, lc10 P, lc11 P, lc12 P, lc13 P, lc14 P, lc15 P, lc16 P, lc17 P, lc18 P, lc19 P, lc20 P, lc21 P, lc22 P, lc23 P, lc24 P, lc25 P, lc26 P, lc27 P, lc28 P, lc29 P, lc30 P, lc31 P, lc32 P, lc33 P, lc34 P, lc35 P, lc36 P, lc37 P, lc38 P, lc39 P, lc40 P, lc41 P, lc42 P, lc43 P, lc44 P] := rfl
    rw [e, xbs_c]
    exact lcase1 hP hi (by omega) (by omega) hR (fun G' c' τ' σ' x y => K k G' c' τ' σ' (by omega) (by omega) x y)
  | 2 => by
    have e : (lcs P).drop 2 = lc2 P :: [lc3 P, lc4 P, lc5 P, lc6 P, lc7 P, lc8 P, lc9 P, lc10 P, lc11 P, lc12 P, lc13 P, lc14 P, lc15 P, lc16 P, lc17 P, lc18 P, lc19 P, lc20 P, lc21 P, lc22 P, lc23 P, lc24 P, lc25 P, lc26 P, lc27 P, lc28 P, lc29 P, lc30 P, lc31 P, lc32 P, lc33 P, lc34 P, lc35 P, lc36 P, lc37 P, lc38 P, lc39 P, lc40 P, lc41 P, lc42 P, lc43 P, lc44 P] := rfl
    rw [e, xbs_c]
    exact lcase2 hP hi (by omega) (by omega) hR (fun G' c' τ' σ' x y => K k G' c' τ' σ' (by omega) (by omega) x y)
  | 3 => by
    have e : (lcs P).drop 3 = lc3 P :: [lc4 P, lc5 P, lc6 P, lc7 P, lc8 P, lc9 P, lc10 P, lc11 P, lc12 P, lc13 P, lc14 P, lc15 P, lc16 P, lc17 P, lc18 P, lc19 P, lc20 P, lc21 P, lc22 P, lc23 P, lc24 P, lc25 P, lc26 P, lc27 P, lc28 P, lc29 P, lc30 P, lc31 P, lc32 P, lc33 P, lc34 P, lc35 P, lc36 P, lc37 P, lc38 P, lc39 P, lc40 P, lc41 P, lc42 P, lc43 P, lc44 P] := rfl
    rw [e, xbs_c]
    exact lcase3 hP hi (by omega) (by omega) hR (fun G' c' τ' σ' x y => K k G' c' τ' σ' (by omega) (by omega) x y)
  | 4 => by
    have e : (lcs P).drop 4 = lc4 P :: [lc5 P, lc6 P, lc7 P, lc8 P, lc9 P, lc10 P, lc11 P, lc12 P, lc13 P, lc14 P, lc15 P, lc16 P, lc17 P, lc18 P, lc19 P, lc20 P, lc21 P, lc22 P, lc23 P, lc24 P, lc25 P, lc26 P, lc27 P, lc28 P, lc29 P, lc30 P, lc31 P, lc32 P, lc33 P, lc34 P, lc35 P, lc36 P, lc37 P, lc38 P, lc39 P, lc40 P, lc41 P, lc42 P, lc43 P, lc44 P] := rfl
    rw [e, xbs_c]
    exact lcase4 hP hi (by omega) (by omega) hR (fun G' c' τ' σ' x y => K k G' c' τ' σ' (by omega) (by omega) x y)
  | 5 => by
    have e : (lcs P).drop 5 = lc5 P :: [lc6 P, lc7 P, lc8 P, lc9 P, lc10 P, lc11 P, lc12 P, lc13 P, lc14 P, lc15 P, lc16 P, lc17 P, lc18 P, lc19 P, lc20 P, lc21 P, lc22 P, lc23 P, lc24 P, lc25 P, lc26 P, lc27 P, lc28 P, lc29 P, lc30 P, lc31 P, lc32 P, lc33 P, lc34 P, lc35 P, lc36 P, lc37 P, lc38 P, lc39 P, lc40 P, lc41 P, lc42 P, lc43 P, lc44 P] := rfl
    rw [e, xbs_c]
    exact lcase5 hP hi (by omega) (by omega) hR (fun G' c' τ' σ' x y => K k G' c' τ' σ' (by omega) (by omega) x y)
  | 6 => by
    have e : (lcs P).drop 6 = lc6 P :: [lc7 P, lc8 P, lc9 P, lc10 P, lc11 P, lc12 P, lc13 P, lc14 P, lc15 P, lc16 P, lc17 P, lc18 P, lc19 P, lc20 P, lc21 P, lc22 P, lc23 P, lc24 P, lc25 P, lc26 P, lc27 P, lc28 P, lc29 P, lc30 P, lc31 P, lc32 P, lc33 P, lc34 P, lc35 P, lc36 P, lc37 P, lc38 P, lc39 P, lc40 P, lc41 P, lc42 P, lc43 P, lc44 P] := rfl
    rw [e, xbs_c]
    exact lcase6 hP hi (by omega) (by omega) hR (fun G' c' τ' σ' x y => K k G' c' τ' σ' (by omega) (by omega) x y)
  | 7 => by
    have e : (lcs P).drop 7 = lc7 P :: [lc8 P, lc9 P, lc10 P, lc11 P, lc12 P, lc13 P, lc14 P, lc15 P, lc16 P, lc17 P, lc18 P, lc19 P, lc20 P, lc21 P, lc22 P, lc23 P, lc24 P, lc25 P, lc26 P, lc27 P, lc28 P, lc29 P, lc30 P, lc31 P, lc32 P, lc33 P, lc34 P, lc35 P, lc36 P, lc37 P, lc38 P, lc39 P, lc40 P, lc41 P, lc42 P, lc43 P, lc44 P] := rfl
    rw [e, xbs_c]
    exact lcase7 hP hi (by omega) (by omega) hR (fun G' c' τ' σ' x y => K k G' c' τ' σ' (by omega) (by omega) x y)
  | 8 => by
    have e : (lcs P).drop 8 = lc8 P :: [lc9 P, lc10 P, lc11 P, lc12 P, lc13 P, lc14 P, lc15 P, lc16 P, lc17 P, lc18 P, lc19 P, lc20 P, lc21 P, lc22 P, lc23 P, lc24 P, lc25 P, lc26 P, lc27 P, lc28 P, lc29 P, lc30 P, lc31 P, lc32 P, lc33 P, lc34 P, lc35 P, lc36 P, lc37 P, lc38 P, lc39 P, lc40 P, lc41 P, lc42 P, lc43 P, lc44 P] := rfl
    rw [e, xbs_c]
    exact lcase8 hP hi k1 k2 hR (fun G' c' τ' σ' x y => K _ G' c' τ' σ' (Nat.le_refl _) (Nat.le_refl _) x y)
  | 9 => by
    have e : (lcs P).drop 9 = lc9 P :: [lc10 P, lc11 P, lc12 P, lc13 P, lc14 P, lc15 P, lc16 P, lc17 P, lc18 P, lc19 P, lc20 P, lc21 P, lc22 P, lc23 P, lc24 P, lc25 P, lc26 P, lc27 P, lc28 P, lc29 P, lc30 P, lc31 P, lc32 P, lc33 P, lc34 P, lc35 P, lc36 P, lc37 P, lc38 P, lc39 P, lc40 P, lc41 P, lc42 P, lc43 P, lc44 P] := rfl
    rw [e, xbs_c]
    exact lcase9 hP hi (by omega) (by omega) hR (fun G' c' τ' σ' x y => K k G' c' τ' σ' (by omega) (by omega) x y)
  | 10 => by
    have e : (lcs P).drop 10 = lc10 P :: [lc11 P, lc12 P, lc13 P, lc14 P, lc15 P, lc16 P, lc17 P, lc18 P, lc19 P, lc20 P, lc21 P, lc22 P, lc23 P, lc24 P, lc25 P, lc26 P, lc27 P, lc28 P, lc29 P, lc30 P, lc31 P, lc32 P, lc33 P, lc34 P, lc35 P, lc36 P, lc37 P, lc38 P, lc39 P, lc40 P, lc41 P, lc42 P, lc43 P, lc44 P] := rfl
    rw [e, xbs_c]
    exact lcase10 hP hi (by omega) (by omega) hR (fun G' c' τ' σ' x y => K k G' c' τ' σ' (by omega) (by omega) x y)
  | 11 => by
    have e : (lcs P).drop 11 = lc11 P :: [lc12 P, lc13 P, lc14 P, lc15 P, lc16 P, lc17 P, lc18 P, lc19 P, lc20 P, lc21 P, lc22 P, lc23 P, lc24 P, lc25 P, lc26 P, lc27 P, lc28 P, lc29 P, lc30 P, lc31 P, lc32 P, lc33 P, lc34 P, lc35 P, lc36 P, lc37 P, lc38 P, lc39 P, lc40 P, lc41 P, lc42 P, lc43 P, lc44 P] := rfl
    rw [e, xbs_c]
    exact lcase11 hP hi (by omega) (by omega) hR (fun G' c' τ' σ' x y => K k G' c' τ' σ' (by omega) (by omega) x y)
  | 12 => by
    have e : (lcs P).drop 12 = lc12 P :: [lc13 P, lc14 P, lc15 P, lc16 P, lc17 P, lc18 P, lc19 P, lc20 P, lc21 P, lc22 P, lc23 P, lc24 P, lc25 P, lc26 P, lc27 P, lc28 P, lc29 P, lc30 P, lc31 P, lc32 P, lc33 P, lc34 P, lc35 P, lc36 P, lc37 P, lc38 P, lc39 P, lc40 P, lc41 P, lc42 P, lc43 P, lc44 P] := rfl
    rw [e, xbs_c]
    exact lcase12 hP hi (by omega) (by omega) hR (fun G' c' τ' σ' x y => K k G' c' τ' σ' (by omega) (by omega) x y)
  | 13 => by
    have e : (lcs P).drop 13 = lc13 P :: [lc14 P, lc15 P, lc16 P, lc17 P, lc18 P, lc19 P, lc20 P, lc21 P, lc22 P, lc23 P, lc24 P, lc25 P, lc26 P, lc27 P, lc28 P, lc29 P, lc30 P, lc31 P, lc32 P, lc33 P, lc34 P, lc35 P, lc36 P, lc37 P, lc38 P, lc39 P, lc40 P, lc41 P, lc42 P, lc43 P, lc44 P] := rfl
    rw [e, xbs_c]
    exact lcase13 hP hi (by omega) (by omega) hR (fun G' c' τ' σ' x y => K k G' c' τ' σ' (by omega) (by omega) x y)
  | 14 => by
    have e : (lcs P).drop 14 = lc14 P :: [lc15 P, lc16 P, lc17 P, lc18 P, lc19 P, lc20 P, lc21 P, lc22 P, lc23 P, lc24 P, lc25 P, lc26 P, lc27 P, lc28 P, lc29 P, lc30 P, lc31 P, lc32 P, lc33 P, lc34 P, lc35 P, lc36 P, lc37 P, lc38 P, lc39 P, lc40 P, lc41 P, lc42 P, lc43 P, lc44 P] := rfl
    rw [e, xbs_c]
    exact lcase14 hP hi (by omega) (by omega) hR (fun G' c' τ' σ' x y => K k G' c' τ' σ' (by omega) (by omega) x y)
  | 15 => by
    have e : (lcs P).drop 15 = lc15 P :: [lc16 P, lc17 P, lc18 P, lc19 P, lc20 P, lc21 P, lc22 P, lc23 P, lc24 P, lc25 P, lc26 P, lc27 P, lc28 P, lc29 P, lc30 P, lc31 P, lc32 P, lc33 P, lc34 P, lc35 P, lc36 P, lc37 P, lc38 P, lc39 P, lc40 P, lc41 P, lc42 P, lc43 P, lc44 P] := rfl
    rw [e, xbs_c]
    exact lcase15 hP hi (by omega) (by omega) hR (fun G' c' τ' σ' x y => K k G' c' τ' σ' (by omega) (by omega) x y)
  | 16 => by
    have e : (lcs P).drop 16 = lc16 P :: [lc17 P, lc18 P, lc19 P, lc20 P, lc21 P, lc22 P, lc23 P, lc24 P, lc25 P, lc26 P, lc27 P, lc28 P, lc29 P, lc30 P, lc31 P, lc32 P, lc33 P, lc34 P, lc35 P, lc36 P, lc37 P, lc38 P, lc39 P, lc40 P, lc41 P, lc42 P, lc43 P, lc44 P] := rfl
    rw [e, xbs_c]
    exact lcase16 hP hi (by omega) (by omega) hR (fun G' c' τ' σ' x y => K k G' c' τ' σ' (by omega) (by omega) x y)
  | 17 => by
    have e : (lcs P).drop 17 = lc17 P :: [lc18 P, lc19 P, lc20 P, lc21 P, lc22 P, lc23 P, lc24 P, lc25 P, lc26 P, lc27 P, lc28 P, lc29 P, lc30 P, lc31 P, lc32 P, lc33 P, lc34 P, lc35 P, lc36 P, lc37 P, lc38 P, lc39 P, lc40 P, lc41 P, lc42 P, lc43 P, lc44 P] := rfl
    rw [e, xbs_c]
    exact lcase17 hP hi (by omega) (by omega) hR (fun G' c' τ' σ' x y => K k G' c' τ' σ' (by omega) (by omega) x y)
  | 18 => by
    have e : (lcs P).drop 18 = lc18 P :: [lc19 P, lc20 P, lc21 P, lc22 P, lc23 P, lc24 P, lc25 P, lc26 P, lc27 P, lc28 P, lc29 P, lc30 P, lc31 P, lc32 P, lc33 P, lc34 P, lc35 P, lc36 P, lc37 P, lc38 P, lc39 P, lc40 P, lc41 P, lc42 P, lc43 P, lc44 P] := rfl
    rw [e, xbs_c]
    exact lcase18 hP hi (by omega) (by omega) hR (fun G' c' τ' σ' x y => K k G' c' τ' σ' (by omega) (by omega) x y)
  | 19 => by
    have e : (lcs P).drop 19 = lc19 P :: [lc20 P, lc21 P, lc22 P, lc23 P, lc24 P, lc25 P, lc26 P, lc27 P, lc28 P, lc29 P, lc30 P, lc31 P, lc32 P, lc33 P, lc34 P, lc35 P, lc36 P, lc37 P, lc38 P, lc39 P, lc40 P, lc41 P, lc42 P, lc43 P, lc44 P] := rfl
    rw [e, xbs_c]
    exact lcase19 hP hi (by omega) (by omega) hR (fun G' c' τ' σ' x y => K k G' c' τ' σ' (by omega) (by omega) x y)
  | 20 => by
    have e : (lcs P).drop 20 = lc20 P :: [lc21 P, lc22 P, lc23 P, lc24 P, lc25 P, lc26 P, lc27 P, lc28 P, lc29 P, lc30 P, lc31 P, lc32 P, lc33 P, lc34 P, lc35 P, lc36 P, lc37 P, lc38 P, lc39 P, lc40 P, lc41 P, lc42 P, lc43 P, lc44 P] := rfl
    rw [e, xbs_c]
    exact lcase20 hP hi (by omega) (by omega) hR (fun G' c' τ' σ' x y => K k G' c' τ' σ' (by omega) (by omega) x y)
  | 21 => by
    have e : (lcs P).drop 21 = lc21 P :: [lc22 P, lc23 P, lc24 P, lc25 P, lc26 P, lc27 P, lc28 P, lc29 P, lc30 P, lc31 P, lc32 P, lc33 P, lc34 P, lc35 P, lc36 P, lc37 P, lc38 P, lc39 P, lc40 P, lc41 P, lc42 P, lc43 P, lc44 P] := rfl
    rw [e, xbs_c]
    exact lcase21 hP hi (by omega) (by omega) hR (fun G' c' τ' σ' x y => K k G' c' τ' σ' (by omega) (by omega) x y)
  | 22 => by
    have e : (lcs P).drop 22 = lc22 P :: [lc23 P, lc24 P, lc25 P, lc26 P, lc27 P, lc28 P, lc29 P, lc30 P, lc31 P, lc32 P, lc33 P, lc34 P, lc35 P, lc36 P, lc37 P, lc38 P, lc39 P, lc40 P, lc41 P, lc42 P, lc43 P, lc44 P] := rfl
    rw [e, xbs_c]
    exact lcase22 hP hi (by omega) (by omega) hR (fun G' c' τ' σ' x y => K k G' c' τ' σ' (by omega) (by omega) x y)
  | 23 => by
    have e : (lcs P).drop 23 = lc23 P :: [lc24 P, lc25 P, lc26 P, lc27 P, lc28 P, lc29 P, lc30 P, lc31 P, lc32 P, lc33 P, lc34 P, lc35 P, lc36 P, lc37 P, lc38 P, lc39 P, lc40 P, lc41 P, lc42 P, lc43 P, lc44 P] := rfl
    rw [e, xbs_c]
    exact lcase23 hP hi (by omega) (by omega) hR (fun G' c' τ' σ' x y => K k G' c' τ' σ' (by omega) (by omega) x y)
  | 24 => by
    have e : (lcs P).drop 24 = lc24 P :: [lc25 P, lc26 P, lc27 P, lc28 P, lc29 P, lc30 P, lc31 P, lc32 P, lc33 P, lc34 P, lc35 P, lc36 P, lc37 P, lc38 P, lc39 P, lc40 P, lc41 P, lc42 P, lc43 P, lc44 P] := rfl
    rw [e, xbs_c]
    exact lcase24 hP hi (by omega) (by omega) hR (fun G' c' τ' σ' x y => K k G' c' τ' σ' (by omega) (by omega) x y)
  | 25 => by
    have e : (lcs P).drop 25 = lc25 P :: [lc26 P, lc27 P, lc28 P, lc29 P, lc30 P, lc31 P, lc32 P, lc33 P, lc34 P, lc35 P, lc36 P, lc37 P, lc38 P, lc39 P, lc40 P, lc41 P, lc42 P, lc43 P, lc44 P] := rfl
    rw [e, xbs_c]
    exact lcase25 hP hi (by omega) (by omega) hR (fun G' c' τ' σ' x y => K k G' c' τ' σ' (by omega) (by omega) x y)
  | 26 => by
    have e : (lcs P).drop 26 = lc26 P :: [lc27 P, lc28 P, lc29 P, lc30 P, lc31 P, lc32 P, lc33 P, lc34 P, lc35 P, lc36 P, lc37 P, lc38 P, lc39 P, lc40 P, lc41 P, lc42 P, lc43 P, lc44 P] := rfl
    rw [e, xbs_c]
    exact lcase26 hP hi (by omega) (by omega) hR (fun G' c' τ' σ' x y => K k G' c' τ' σ' (by omega) (by omega) x y)
  | 27 => by
    have e : (lcs P).drop 27 = lc27 P :: [lc28 P, lc29 P, lc30 P, lc31 P, lc32 P, lc33 P, lc34 P, lc35 P, lc36 P, lc37 P, lc38 P, lc39 P, lc40 P, lc41 P, lc42 P, lc43 P, lc44 P] := rfl
    rw [e, xbs_c]
    exact lcase27 hP hi (by omega) (by omega) hR (fun G' c' τ' σ' x y => K k G' c' τ' σ' (by omega) (by omega) x y)
  | 28 => by
    have e : (lcs P).drop 28 = lc28 P :: [lc29 P, lc30 P, lc31 P, lc32 P, lc33 P, lc34 P, lc35 P, lc36 P, lc37 P, lc38 P, lc39 P, lc40 P, lc41 P, lc42 P, lc43 P, lc44 P] := rfl
    rw [e, xbs_c]
    exact lcase28 hP hi (by omega) (by omega) hR (fun G' c' τ' σ' x y => K k G' c' τ' σ' (by omega) (by omega) x y)
  | 29 => by
    have e : (lcs P).drop 29 = lc29 P :: [lc30 P, lc31 P, lc32 P, lc33 P, lc34 P, lc35 P, lc36 P, lc37 P, lc38 P, lc39 P, lc40 P, lc41 P, lc42 P, lc43 P, lc44 P] := rfl
    rw [e, xbs_c]
    exact lcase29 hP hi (by omega) (by omega) hR (fun G' c' τ' σ' x y => K k G' c' τ' σ' (by omega) (by omega) x y)
  | 30 => by
    have e : (lcs P).drop 30 = lc30 P :: [lc31 P, lc32 P, lc33 P, lc34 P, lc35 P, lc36 P, lc37 P, lc38 P, lc39 P, lc40 P, lc41 P, lc42 P, lc43 P, lc44 P] := rfl
    rw [e, xbs_c]
    exact lcase30 hP hi (by omega) (by omega) hR (fun G' c' τ' σ' x y => K k G' c' τ' σ' (by omega) (by omega) x y)
  | 31 => by
    have e : (lcs P).drop 31 = lc31 P :: [lc32 P, lc33 P, lc34 P, lc35 P, lc36 P, lc37 P, lc38 P, lc39 P, lc40 P, lc41 P, lc42 P, lc43 P, lc44 P] := rfl
    rw [e, xbs_c]
    exact lcase31 hP hi (by omega) (by omega) hn0 hR (fun G' c' τ' σ' x y => K k G' c' τ' σ' (by omega) (by omega) x y)
  | 32 => by
    have e : (lcs P).drop 32 = lc32 P :: [lc33 P, lc34 P, lc35 P, lc36 P, lc37 P, lc38 P, lc39 P, lc40 P, lc41 P, lc42 P, lc43 P, lc44 P] := rfl
    rw [e, xbs_c]
    exact lcase32 hP hi (by omega) (by omega) hR (fun G' c' τ' σ' x y => K k G' c' τ' σ' (by omega) (by omega) x y)
  | 33 => by
    have e : (lcs P).drop 33 = lc33 P :: [lc34 P, lc35 P, lc36 P, lc37 P, lc38 P, lc39 P, lc40 P, lc41 P, lc42 P, lc43 P, lc44 P] := rfl
    rw [e, xbs_c]
    exact lcase33 hP hi (by omega) (by omega) hR (fun G' c' τ' σ' x y => K k G' c' τ' σ' (by omega) (by omega) x y)
  | 34 => by
    have e : (lcs P).drop 34 = lc34 P :: [lc35 P, lc36 P, lc37 P, lc38 P, lc39 P, lc40 P, lc41 P, lc42 P, lc43 P, lc44 P] := rfl
    rw [e, xbs_c]
    exact lcase34 hP hi (by omega) (by omega) hn0 hR (fun G' c' τ' σ' x y => K k G' c' τ' σ' (by omega) (by omega) x y)
  | 35 => by
    have e : (lcs P).drop 35 = lc35 P :: [lc36 P, lc37 P, lc38 P, lc39 P, lc40 P, lc41 P, lc42 P, lc43 P, lc44 P] := rfl
    rw [e, xbs_c]
    exact lcase35 hP hi (by omega) (by omega) hn0 hR (fun G' c' τ' σ' x y => K k G' c' τ' σ' (by omega) (by omega) x y)
  | 36 => by
    have e : (lcs P).drop 36 = lc36 P :: [lc37 P, lc38 P, lc39 P, lc40 P, lc41 P, lc42 P, lc43 P, lc44 P] := rfl
    rw [e, xbs_c]
    exact lcase36 hP hi (by omega) (by omega) hR (fun G' c' τ' σ' x y => K k G' c' τ' σ' (by omega) (by omega) x y)
  | 37 => by
    have e : (lcs P).drop 37 = lc37 P :: [lc38 P, lc39 P, lc40 P, lc41 P, lc42 P, lc43 P, lc44 P] := rfl
    rw [e, xbs_c]
    exact lcase37 hP hi (by omega) (by omega) hR (fun G' c' τ' σ' x y => K k G' c' τ' σ' (by omega) (by omega) x y)
  | 38 => by
    have e : (lcs P).drop 38 = lc38 P :: [lc39 P, lc40 P, lc41 P, lc42 P, lc43 P, lc44 P] := rfl
    rw [e, xbs_c]
    exact lcase38 hP hi (by omega) (by omega) hR (fun G' c' τ' σ' x y => K k G' c' τ' σ' (by omega) (by omega) x y)
  | 39 => by
    have e : (lcs P).drop 39 = lc39 P :: [lc40 P, lc41 P, lc42 P, lc43 P, lc44 P] := rfl
    rw [e, xbs_c]
    exact lcase39 hP hi (by omega) (by omega) hR (fun G' c' τ' σ' x y => K k G' c' τ' σ' (by omega) (by omega) x y)
  | 40 => by
    have e : (lcs P).drop 40 = lc40 P :: [lc41 P, lc42 P, lc43 P, lc44 P] := rfl
    rw [e, xbs_c]
    exact lcase40 hP hi (by omega) (by omega) hR (fun G' c' τ' σ' x y => K k G' c' τ' σ' (by omega) (by omega) x y)
  | 41 => by
    have e : (lcs P).drop 41 = lc41 P :: [lc42 P, lc43 P, lc44 P] := rfl
    rw [e, xbs_c]
    exact lcase41 hP hi (by omega) (by omega) hR (fun G' c' τ' σ' x y => K k G' c' τ' σ' (by omega) (by omega) x y)
  | 42 => by
    have e : (lcs P).drop 42 = lc42 P :: [lc43 P, lc44 P] := rfl
    rw [e, xbs_c]
    exact lcase42 hP hi (by omega) (by omega) hR (fun G' c' τ' σ' x y => K k G' c' τ' σ' (by omega) (by omega) x y)
  | 43 => by
    have e : (lcs P).drop 43 = lc43 P :: [lc44 P] := rfl
    rw [e, xbs_c]
    exact lcase43 hP hi (by omega) (by omega) hR (fun G' c' τ' σ' x y => K k G' c' τ' σ' (by omega) (by omega) x y)
  | 44 => by
    have e : (lcs P).drop 44 = [lc44 P] := rfl
    rw [e, xbs_c]
    exact K k G c τ σ (by omega) (by omega) (by omega) hR
  | j + 45 => by
    have e : (lcs P).drop (j + 45) = [] := by
      rw [List.drop_eq_nil_iff]
      show 45 ≤ j + 45
      omega
    rw [e, xbs_n]
    exact K k G c τ σ (by omega) (by omega) (by omega) hR
theorem le8 {l i : Nat} (hl : l ≤ 4096) (hi : i ≤ 5000) : xcm .le (nI i) (nI l - nI 8) = decide (i + 8 ≤ l) := by
  by_cases c : 8 ≤ l
  · have e : nI l - nI 8 = nI (l - 8) := by
      have e1 : nI l = nI (l - 8) + nI 8 := by rw [nI_add]; congr 1; omega
      rw [e1]
      exact Int32.add_sub_cancel _ _
    rw [e, xc_le (by omega) (by omega)]
    exact decide_eq_decide.mpr (by omega)
  · have a : ∀ l, l < 8 → nI l - nI 8 < 0 := by decide
    have a := a l (by omega)
    rw [xq_le, decide_eq_false (p := i + 8 ≤ l) (by omega)]
    refine decide_eq_false (fun z => ?_)
    have b : (0 : Int32) ≤ nI i := nI_pos' (by omega)
    exact Int32.lt_irrefl (Int32.lt_of_le_of_lt (Int32.le_trans b z) a)
theorem law_lp (hP : P.1 ≤ 4096) (hn0 : n0 = 1000001) (k1 : k.1 ≤ 500000) (k2 : k.2 ≤ 7000000) (hR : Rl n0 G c τ σ) (K : ∀ j k' G' c' τ' σ', Rl n0 G' c' τ' σ' → N [.retAddr 0, .ref 0, .ref 162, .int (nI (8 * j))] k' (mkX (mk h σ') c' τ')) : (sLp (dC (cCm .le (pIn 3) (pB oSub (pU (oScrL P rfl) (pAn 0)) (pBi (8))))) (sSw (eP (pB oAnd (pB (oScr P rfl) (pAn 0) (pIn 3)) (pBi (63)))) 2 (0) [0, 1, 2, 3, 4, 5, 6, 7, 8, 9, 10, 11, 12, 13, 14, 15, 16, 17, 18, 19, 20, 21, 22, 23, 24, 25, 26, 27, 28, 29, 30, 31, 32, 33, 34, 35, 36, 37, 38, 39, 40, 41, 42, 43] 44 (lcs P)) (sInc 3 (8)) false : SN (S_law P)).1.2.2 [.retAddr 0, .ref 0, .ref 162, .int (nI 0)] k (mkX (mk h σ) c τ) N B Ct R := by
  rw [ySLp]
  refine lq_gk (S := Nat × (Nat × Nat) × (Nat → Nat → Int32) × XC × XS × MS) (fun s => Rl n0 s.2.2.1 s.2.2.2.1 s.2.2.2.2.1 s.2.2.2.2.2 ∧ s.1 ≤ 512 ∧ s.2.1.1 ≤ 500000 + 4 * s.1 ∧ s.2.1.2 ≤ 7000000 + 59 * s.1) (fun s => 513 - s.1) (fun s => [.retAddr 0, .ref 0, .ref 162, .int (nI (8 * s.1))]) (fun s => s.2.1) (fun s => mkX (mk h s.2.2.2.2.2) s.2.2.2.1 s.2.2.2.2.1) (0, k, G, c, τ, σ) rfl rfl rfl ⟨hR, by show 0 ≤ 512; omega, by show k.1 ≤ 500000 + 4 * 0; omega, by show k.2 ≤ 7000000 + 59 * 0; omega⟩ ?_
  rintro ⟨j, k, G, c, τ, σ⟩ Pp ⟨hR, hj, k1, k2⟩ Hp
  simp only at hR hj k1 k2 Hp ⊢
  have el : fScrL P (.retAddr 0) = some (.int (nI P.1)) := rfl
  have e0 := le8 (i := 8 * j) hP (by omega)
  by_cases hc : 8 * j + 8 ≤ P.1
  · rw [decide_eq_true hc] at e0
    have es := scr_ (P := P) (i := 8 * j) hP (by omega)
    have Z := fun N' Ct' K' => lcases (h := h) (N := N') (Ct := Ct') (R := R) hP hc (by omega : k.1 + 4 ≤ 600000) (by omega : k.2 + 59 ≤ 7302250) hn0 hR K'
    simp (disch := first | assumption | omega | decide | rfl | (simp (disch := omega) only [vA_eq, vA_ne, vA_2, vL_1, vL_eq, vL_ne, vL_22, vP_1, vP_21, vP_eq, vP_ne, xupd_ne, xupd_e2, not_false_eq_true, implies_true, *])) only [zPIc, zPBi, zPSi, zPLdc, zPLdcw, zPLd2, zPLc, zPNull, zPIn, zPI, zPLn, zPL, zPAn, zPA, zPStr, zPCs, zPU, zPB, zPBv, zPTn, zCIf, zCCm, zCNl, zCNot, zCAnd, zCOr, zOAdd, zOSub, zOMul, zOAnd, zOOr, zOXor, zOShl, zOShr, zOUshr, zODiv, zORem, zOAddL, zOSubL, zOMulL, zOAndL, zOXorL, zORemL, zOShlL, zOShrL, zOCmpL, zOIald, zOLald, zOZald, zOAald, zOI2l, zOL2i, zONeg, zONegL, zOGet, zOAlen, zOScrL, zOScr, zOSv, zOScd, zOBln, zOBld, zOI2c, zLIn, zLI, zLLn, zLL, zLAn, zLA, zQPut, zTI, zTL, zTZ, zTA, ↓yEP, ↓yEU, ↓yEB, ↓yDC, ↓yDIf, ↓yDCm, ↓zDNot, ↓zDAnd, ↓zDOr, ↓zEBv, ↓zETn, ↓zAN, ↓zAC, ↓yKV, ↓yKS, ↓yKX, ↓yKAc, ↓yEK, ↓yENew, ↓yENa, ↓zSNop, ↓zSSeq, ↓zSBrk, ↓zSCnt, ↓zSSB, ↓zSSC, ↓zSSc, ↓zSIf, ↓zSIfE, ↓zSIfR, ↓zSIfB, ↓zSIfC, ↓zSDead, ↓ySSt, ↓ySInc, ↓ySPut, ↓ySPutC, ↓ySAst, ↓ySAstC, ↓ySK, ↓ySKp, ↓zSRv, ↓ySR, ↓ySLp, ↓ySWh, ↓ySSw, ob_s, ob_n, gd_t, gd_f, okx_r, xai_i, li0, lis, ll0, lls, la0, la0n, la0r, las, xs1_0, xs1_1, xs1_s, xs2_0, xs2_1, xs2_s, xisl_i, xisl_r, xisl_n, xisl_a, xisl_j, xisl_l, si_0, si_1, si_s, sl_0, sl_1, sl_s, sa_0, sa_1, sa_s, inc_, ii_, iz_, ll_, lz_, lsh_, lc_, i2l_, l2i_, neg_, negl_, if_, cm_, nl_r, nl_n, rI_i, rI_l, rI_r, rI_n, rI_a, rv_v, rv_i, rv_l, rv_b, rv_b1, rv_b0, rv_r, rv_n, rv_a, cat_i, cat_l, cat_r, cat_n, cat_b, rI_b, if_b, bi_, si2_, Option.bind_some, Option.bind_none, Option.map_some, Option.some.injEq, exists_eq_left, exists_eq_left', List.getElem?_cons_zero, List.getElem?_cons_succ, List.length_cons, List.length_nil, ↓reduceIte, true_and, and_true, Fin.isValue, Fin.val_zero, Fin.val_one, Fin.val_two, Fin.reduceFinMk, reduceCtorEq, exists_const, Bool.false_eq_true, Nat.reduceAdd, Nat.zero_add, Nat.reduceMul, Nat.reduceLeDiff, Nat.le_refl, exists_and_left, List.set_cons_zero, List.set_cons_succ, oX_CornerCuts, xg10_0, xg10_1, xg10_2, xg10_3, xg10_4, xg10_5, xg10_6, xg10_7, xg10_8, xg10_9, xg10_10, xg10_11, xg10_12, xp10_12, xg10_13, xp10_13, xg10_14, xq10_14, xg10_15, xq10_15, xg10_16, xq10_16, oX_History, xg2_0, xg2_1, xg2_2, xp2_2, xg2_3, xp2_3, oX_Group, xg1_0, xp1_0, xg1_1, xp1_1, xg1_2, xp1_2, xg1_3, xg1_4, xg1_5, xg1_6, xg1_7, oX_Walks, xg9_0, xg9_1, xg9_2, xg9_3, xg9_4, xq9_4, xg9_5, xq9_5, xg9_6, xp9_6, oX_Judge, xg3_0, xg3_1, xg3_2, xp3_2, oX_Table, xg6_0, xp6_0, xg6_1, xg6_2, xp6_2, xg6_3, oX_Tape, xg7_0, xg7_1, xp7_1, xg7_2, xp7_2, xg7_3, xp7_3, xa2, xt2_, xl2, xa3, xt3_, xl3, xa4, xt4_, xl4, xa5, xt5_, xl5, xa6, xt6_, xl6, xa7, xl7, xa9, xl9, xa10, xt10_, xl10, xa72, xt72_, xl72, xa74, xt74_, xl74, xa75, xt75_, xl75, xa76, xt76_, xl76, xa77, xt77_, xl77, xa78, xt78_, xl78, xa84, xt84_, xl84, xa85, xt85_, xl85, xa86, xt86_, xl86, xa92, xt92_, xl92, xa93, xt93_, xl93, xa95, xt95_, xl95, xa96, xt96_, xl96, xa147, xt147_, xl147, xa148, xt148_, xl148, xa149, xt149_, xl149, oX_Model, xg4_0, xp4_0, xg4_1, xp4_1, xg4_2, xp4_2, xg4_3, xg4_4, xg4_5, xg4_6, xg4_7, xaM1, xtM1_, xlM1, xaM2, xtM2_, xlM2, xaM3, xtM3_, xlM3, xaM4, xtM4_, xlM4, xaM5, xtM5_, zb0, lT2, lT3, lT8, lT9, lT99, lT9999, lTc0, lTc1, lTm1, lTm9, lTm99, lTm9999, oI0, oI1, oI10, oI100, oI11, oI12, oI122, oI13, oI14, oI15, oI16, oI18, oI192, oI2, oI20, oI22, oI23, oI24, oI25, oI255, oI26, oI3, oI30, oI31, oI32, oI39, oI3951, oI4, oI40, oI400, oI4000, oI439, oI4390, oI45, oI48, oI5, oI50, oI57, oI576, oI6, oI600, oI64, oI7, oI72, oI8, oI878, oI9, oI96, oI97, oI99, oI999, oI9999, oIm1, oIm2, oIm4, oIm5, oIm6, oIm9, oIm99, zb0, zb1, zb2, zb3, bI_ne, bI_eq, iz_n, rem_n, div_n, af_d, kp_d, fin3, isr_r, isr_n, isr_a, Value.ref.injEq, Sum.inr.injEq, Prod.mk.injEq, nI_m, nI_a, xinb_n, clamp_n, xc_lt, xc_le, xc_gt, xc_ge, xc_eq, xc_ne, xz_eq, xz_ne, xz_lt, xz_ge, xz_gt, xz_le, pk_sub, Nat.reduceSub, decide_true, decide_false, eq_self, Nat.add_sub_cancel, dt_lt, df_lt, dt_le, df_le, dt_eq, df_eq, iff_self, Bool.not_true, Bool.not_false, Bool.and_true, Bool.true_and, Bool.and_false, Bool.false_and, false_and, and_false, xrf_n, xrf_s, sa_0r, sa_1r, vA_eq, vA_ne, vA_2, vL_1, vL_eq, vL_ne, vL_22, vP_1, vP_21, vP_eq, vP_ne, uA_uA, uL_uL, uP_uP, uA_sx, uL_sx, uP_sx, id_eq, uA_uL, uA_uP, uL_uP, xupd_e2, xupd_ne, xupd_xupd, el, e0, es]
    refine Z _ _ (fun k' G' c' τ' σ' x1 x2 x3 R' => ?_) _
    have Hp := Hp (j + 1, k', G', c', τ', σ') ⟨R', by show j + 1 ≤ 512; omega, by show k'.1 ≤ 500000 + 4 * (j + 1); omega, by show k'.2 ≤ 7000000 + 59 * (j + 1); omega⟩ (by show 513 - (j + 1) < 513 - j; omega)
    have e8 : 8 * (j + 1) = 8 * j + 8 := by omega
    simp only [e8] at Hp
    clear Z R' hR
    simp (disch := first | assumption | omega | decide | rfl | (simp (disch := omega) only [vA_eq, vA_ne, vA_2, vL_1, vL_eq, vL_ne, vL_22, vP_1, vP_21, vP_eq, vP_ne, xupd_ne, xupd_e2, not_false_eq_true, implies_true, *])) only [zPIc, zPBi, zPSi, zPLdc, zPLdcw, zPLd2, zPLc, zPNull, zPIn, zPI, zPLn, zPL, zPAn, zPA, zPStr, zPCs, zPU, zPB, zPBv, zPTn, zCIf, zCCm, zCNl, zCNot, zCAnd, zCOr, zOAdd, zOSub, zOMul, zOAnd, zOOr, zOXor, zOShl, zOShr, zOUshr, zODiv, zORem, zOAddL, zOSubL, zOMulL, zOAndL, zOXorL, zORemL, zOShlL, zOShrL, zOCmpL, zOIald, zOLald, zOZald, zOAald, zOI2l, zOL2i, zONeg, zONegL, zOGet, zOAlen, zOScrL, zOScr, zOSv, zOScd, zOBln, zOBld, zOI2c, zLIn, zLI, zLLn, zLL, zLAn, zLA, zQPut, zTI, zTL, zTZ, zTA, ↓yEP, ↓yEU, ↓yEB, ↓yDC, ↓yDIf, ↓yDCm, ↓zDNot, ↓zDAnd, ↓zDOr, ↓zEBv, ↓zETn, ↓zAN, ↓zAC, ↓yKV, ↓yKS, ↓yKX, ↓yKAc, ↓yEK, ↓yENew, ↓yENa, ↓zSNop, ↓zSSeq, ↓zSBrk, ↓zSCnt, ↓zSSB, ↓zSSC, ↓zSSc, ↓zSIf, ↓zSIfE, ↓zSIfR, ↓zSIfB, ↓zSIfC, ↓zSDead, ↓ySSt, ↓ySInc, ↓ySPut, ↓ySPutC, ↓ySAst, ↓ySAstC, ↓ySK, ↓ySKp, ↓zSRv, ↓ySR, ↓ySLp, ↓ySWh, ↓ySSw, ob_s, ob_n, gd_t, gd_f, okx_r, xai_i, li0, lis, ll0, lls, la0, la0n, la0r, las, xs1_0, xs1_1, xs1_s, xs2_0, xs2_1, xs2_s, xisl_i, xisl_r, xisl_n, xisl_a, xisl_j, xisl_l, si_0, si_1, si_s, sl_0, sl_1, sl_s, sa_0, sa_1, sa_s, inc_, ii_, iz_, ll_, lz_, lsh_, lc_, i2l_, l2i_, neg_, negl_, if_, cm_, nl_r, nl_n, rI_i, rI_l, rI_r, rI_n, rI_a, rv_v, rv_i, rv_l, rv_b, rv_b1, rv_b0, rv_r, rv_n, rv_a, cat_i, cat_l, cat_r, cat_n, cat_b, rI_b, if_b, bi_, si2_, Option.bind_some, Option.bind_none, Option.map_some, Option.some.injEq, exists_eq_left, exists_eq_left', List.getElem?_cons_zero, List.getElem?_cons_succ, List.length_cons, List.length_nil, ↓reduceIte, true_and, and_true, Fin.isValue, Fin.val_zero, Fin.val_one, Fin.val_two, Fin.reduceFinMk, reduceCtorEq, exists_const, Bool.false_eq_true, Nat.reduceAdd, Nat.zero_add, Nat.reduceMul, Nat.reduceLeDiff, Nat.le_refl, exists_and_left, List.set_cons_zero, List.set_cons_succ, oX_CornerCuts, xg10_0, xg10_1, xg10_2, xg10_3, xg10_4, xg10_5, xg10_6, xg10_7, xg10_8, xg10_9, xg10_10, xg10_11, xg10_12, xp10_12, xg10_13, xp10_13, xg10_14, xq10_14, xg10_15, xq10_15, xg10_16, xq10_16, oX_History, xg2_0, xg2_1, xg2_2, xp2_2, xg2_3, xp2_3, oX_Group, xg1_0, xp1_0, xg1_1, xp1_1, xg1_2, xp1_2, xg1_3, xg1_4, xg1_5, xg1_6, xg1_7, oX_Walks, xg9_0, xg9_1, xg9_2, xg9_3, xg9_4, xq9_4, xg9_5, xq9_5, xg9_6, xp9_6, oX_Judge, xg3_0, xg3_1, xg3_2, xp3_2, oX_Table, xg6_0, xp6_0, xg6_1, xg6_2, xp6_2, xg6_3, oX_Tape, xg7_0, xg7_1, xp7_1, xg7_2, xp7_2, xg7_3, xp7_3, xa2, xt2_, xl2, xa3, xt3_, xl3, xa4, xt4_, xl4, xa5, xt5_, xl5, xa6, xt6_, xl6, xa7, xl7, xa9, xl9, xa10, xt10_, xl10, xa72, xt72_, xl72, xa74, xt74_, xl74, xa75, xt75_, xl75, xa76, xt76_, xl76, xa77, xt77_, xl77, xa78, xt78_, xl78, xa84, xt84_, xl84, xa85, xt85_, xl85, xa86, xt86_, xl86, xa92, xt92_, xl92, xa93, xt93_, xl93, xa95, xt95_, xl95, xa96, xt96_, xl96, xa147, xt147_, xl147, xa148, xt148_, xl148, xa149, xt149_, xl149, oX_Model, xg4_0, xp4_0, xg4_1, xp4_1, xg4_2, xp4_2, xg4_3, xg4_4, xg4_5, xg4_6, xg4_7, xaM1, xtM1_, xlM1, xaM2, xtM2_, xlM2, xaM3, xtM3_, xlM3, xaM4, xtM4_, xlM4, xaM5, xtM5_, zb0, lT2, lT3, lT8, lT9, lT99, lT9999, lTc0, lTc1, lTm1, lTm9, lTm99, lTm9999, oI0, oI1, oI10, oI100, oI11, oI12, oI122, oI13, oI14, oI15, oI16, oI18, oI192, oI2, oI20, oI22, oI23, oI24, oI25, oI255, oI26, oI3, oI30, oI31, oI32, oI39, oI3951, oI4, oI40, oI400, oI4000, oI439, oI4390, oI45, oI48, oI5, oI50, oI57, oI576, oI6, oI600, oI64, oI7, oI72, oI8, oI878, oI9, oI96, oI97, oI99, oI999, oI9999, oIm1, oIm2, oIm4, oIm5, oIm6, oIm9, oIm99, zb0, zb1, zb2, zb3, bI_ne, bI_eq, iz_n, rem_n, div_n, af_d, kp_d, fin3, isr_r, isr_n, isr_a, Value.ref.injEq, Sum.inr.injEq, Prod.mk.injEq, nI_m, nI_a, xinb_n, clamp_n, xc_lt, xc_le, xc_gt, xc_ge, xc_eq, xc_ne, xz_eq, xz_ne, xz_lt, xz_ge, xz_gt, xz_le, pk_sub, Nat.reduceSub, decide_true, decide_false, eq_self, Nat.add_sub_cancel, dt_lt, df_lt, dt_le, df_le, dt_eq, df_eq, iff_self, Bool.not_true, Bool.not_false, Bool.and_true, Bool.true_and, Bool.and_false, Bool.false_and, false_and, and_false, xrf_n, xrf_s, sa_0r, sa_1r, vA_eq, vA_ne, vA_2, vL_1, vL_eq, vL_ne, vL_22, vP_1, vP_21, vP_eq, vP_ne, uA_uA, uL_uL, uP_uP, uA_sx, uL_sx, uP_sx, id_eq, uA_uL, uA_uP, uL_uP, xupd_e2, xupd_ne, xupd_xupd, el]
    exact Hp
  · rw [decide_eq_false hc] at e0
    have K := K j k G c τ σ hR
    simp (disch := first | assumption | omega | decide | rfl | (simp (disch := omega) only [vA_eq, vA_ne, vA_2, vL_1, vL_eq, vL_ne, vL_22, vP_1, vP_21, vP_eq, vP_ne, xupd_ne, xupd_e2, not_false_eq_true, implies_true, *])) only [zPIc, zPBi, zPSi, zPLdc, zPLdcw, zPLd2, zPLc, zPNull, zPIn, zPI, zPLn, zPL, zPAn, zPA, zPStr, zPCs, zPU, zPB, zPBv, zPTn, zCIf, zCCm, zCNl, zCNot, zCAnd, zCOr, zOAdd, zOSub, zOMul, zOAnd, zOOr, zOXor, zOShl, zOShr, zOUshr, zODiv, zORem, zOAddL, zOSubL, zOMulL, zOAndL, zOXorL, zORemL, zOShlL, zOShrL, zOCmpL, zOIald, zOLald, zOZald, zOAald, zOI2l, zOL2i, zONeg, zONegL, zOGet, zOAlen, zOScrL, zOScr, zOSv, zOScd, zOBln, zOBld, zOI2c, zLIn, zLI, zLLn, zLL, zLAn, zLA, zQPut, zTI, zTL, zTZ, zTA, ↓yEP, ↓yEU, ↓yEB, ↓yDC, ↓yDIf, ↓yDCm, ↓zDNot, ↓zDAnd, ↓zDOr, ↓zEBv, ↓zETn, ↓zAN, ↓zAC, ↓yKV, ↓yKS, ↓yKX, ↓yKAc, ↓yEK, ↓yENew, ↓yENa, ↓zSNop, ↓zSSeq, ↓zSBrk, ↓zSCnt, ↓zSSB, ↓zSSC, ↓zSSc, ↓zSIf, ↓zSIfE, ↓zSIfR, ↓zSIfB, ↓zSIfC, ↓zSDead, ↓ySSt, ↓ySInc, ↓ySPut, ↓ySPutC, ↓ySAst, ↓ySAstC, ↓ySK, ↓ySKp, ↓zSRv, ↓ySR, ↓ySLp, ↓ySWh, ↓ySSw, ob_s, ob_n, gd_t, gd_f, okx_r, xai_i, li0, lis, ll0, lls, la0, la0n, la0r, las, xs1_0, xs1_1, xs1_s, xs2_0, xs2_1, xs2_s, xisl_i, xisl_r, xisl_n, xisl_a, xisl_j, xisl_l, si_0, si_1, si_s, sl_0, sl_1, sl_s, sa_0, sa_1, sa_s, inc_, ii_, iz_, ll_, lz_, lsh_, lc_, i2l_, l2i_, neg_, negl_, if_, cm_, nl_r, nl_n, rI_i, rI_l, rI_r, rI_n, rI_a, rv_v, rv_i, rv_l, rv_b, rv_b1, rv_b0, rv_r, rv_n, rv_a, cat_i, cat_l, cat_r, cat_n, cat_b, rI_b, if_b, bi_, si2_, Option.bind_some, Option.bind_none, Option.map_some, Option.some.injEq, exists_eq_left, exists_eq_left', List.getElem?_cons_zero, List.getElem?_cons_succ, List.length_cons, List.length_nil, ↓reduceIte, true_and, and_true, Fin.isValue, Fin.val_zero, Fin.val_one, Fin.val_two, Fin.reduceFinMk, reduceCtorEq, exists_const, Bool.false_eq_true, Nat.reduceAdd, Nat.zero_add, Nat.reduceMul, Nat.reduceLeDiff, Nat.le_refl, exists_and_left, List.set_cons_zero, List.set_cons_succ, oX_CornerCuts, xg10_0, xg10_1, xg10_2, xg10_3, xg10_4, xg10_5, xg10_6, xg10_7, xg10_8, xg10_9, xg10_10, xg10_11, xg10_12, xp10_12, xg10_13, xp10_13, xg10_14, xq10_14, xg10_15, xq10_15, xg10_16, xq10_16, oX_History, xg2_0, xg2_1, xg2_2, xp2_2, xg2_3, xp2_3, oX_Group, xg1_0, xp1_0, xg1_1, xp1_1, xg1_2, xp1_2, xg1_3, xg1_4, xg1_5, xg1_6, xg1_7, oX_Walks, xg9_0, xg9_1, xg9_2, xg9_3, xg9_4, xq9_4, xg9_5, xq9_5, xg9_6, xp9_6, oX_Judge, xg3_0, xg3_1, xg3_2, xp3_2, oX_Table, xg6_0, xp6_0, xg6_1, xg6_2, xp6_2, xg6_3, oX_Tape, xg7_0, xg7_1, xp7_1, xg7_2, xp7_2, xg7_3, xp7_3, xa2, xt2_, xl2, xa3, xt3_, xl3, xa4, xt4_, xl4, xa5, xt5_, xl5, xa6, xt6_, xl6, xa7, xl7, xa9, xl9, xa10, xt10_, xl10, xa72, xt72_, xl72, xa74, xt74_, xl74, xa75, xt75_, xl75, xa76, xt76_, xl76, xa77, xt77_, xl77, xa78, xt78_, xl78, xa84, xt84_, xl84, xa85, xt85_, xl85, xa86, xt86_, xl86, xa92, xt92_, xl92, xa93, xt93_, xl93, xa95, xt95_, xl95, xa96, xt96_, xl96, xa147, xt147_, xl147, xa148, xt148_, xl148, xa149, xt149_, xl149, oX_Model, xg4_0, xp4_0, xg4_1, xp4_1, xg4_2, xp4_2, xg4_3, xg4_4, xg4_5, xg4_6, xg4_7, xaM1, xtM1_, xlM1, xaM2, xtM2_, xlM2, xaM3, xtM3_, xlM3, xaM4, xtM4_, xlM4, xaM5, xtM5_, zb0, lT2, lT3, lT8, lT9, lT99, lT9999, lTc0, lTc1, lTm1, lTm9, lTm99, lTm9999, oI0, oI1, oI10, oI100, oI11, oI12, oI122, oI13, oI14, oI15, oI16, oI18, oI192, oI2, oI20, oI22, oI23, oI24, oI25, oI255, oI26, oI3, oI30, oI31, oI32, oI39, oI3951, oI4, oI40, oI400, oI4000, oI439, oI4390, oI45, oI48, oI5, oI50, oI57, oI576, oI6, oI600, oI64, oI7, oI72, oI8, oI878, oI9, oI96, oI97, oI99, oI999, oI9999, oIm1, oIm2, oIm4, oIm5, oIm6, oIm9, oIm99, zb0, zb1, zb2, zb3, bI_ne, bI_eq, iz_n, rem_n, div_n, af_d, kp_d, fin3, isr_r, isr_n, isr_a, Value.ref.injEq, Sum.inr.injEq, Prod.mk.injEq, nI_m, nI_a, xinb_n, clamp_n, xc_lt, xc_le, xc_gt, xc_ge, xc_eq, xc_ne, xz_eq, xz_ne, xz_lt, xz_ge, xz_gt, xz_le, pk_sub, Nat.reduceSub, decide_true, decide_false, eq_self, Nat.add_sub_cancel, dt_lt, df_lt, dt_le, df_le, dt_eq, df_eq, iff_self, Bool.not_true, Bool.not_false, Bool.and_true, Bool.true_and, Bool.and_false, Bool.false_and, false_and, and_false, xrf_n, xrf_s, sa_0r, sa_1r, vA_eq, vA_ne, vA_2, vL_1, vL_eq, vL_ne, vL_22, vP_1, vP_21, vP_eq, vP_ne, uA_uA, uL_uL, uP_uP, uA_sx, uL_sx, uP_sx, id_eq, uA_uL, uA_uP, uL_uP, xupd_e2, xupd_ne, xupd_xupd, el, e0]
    exact K
end
