/-! the law's bytes: case by case -/
set_option maxRecDepth 100000
theorem lcl0 : (lc0 (0, fun _ => 0)).1.1 = 23 := by decide +kernel
theorem lcl1 : (lc1 (0, fun _ => 0)).1.1 = 43 := by decide +kernel
theorem lcl2 : (lc2 (0, fun _ => 0)).1.1 = 33 := by decide +kernel
theorem lcl3 : (lc3 (0, fun _ => 0)).1.1 = 53 := by decide +kernel
theorem lcl4 : (lc4 (0, fun _ => 0)).1.1 = 33 := by decide +kernel
theorem lcl5 : (lc5 (0, fun _ => 0)).1.1 = 23 := by decide +kernel
theorem lcl6 : (lc6 (0, fun _ => 0)).1.1 = 63 := by decide +kernel
theorem lcl7 : (lc7 (0, fun _ => 0)).1.1 = 23 := by decide +kernel
theorem lcl8 : (lc8 (0, fun _ => 0)).1.1 = 13 := by decide +kernel
theorem lcl9 : (lc9 (0, fun _ => 0)).1.1 = 13 := by decide +kernel
theorem lcl10 : (lc10 (0, fun _ => 0)).1.1 = 23 := by decide +kernel
theorem lcl11 : (lc11 (0, fun _ => 0)).1.1 = 23 := by decide +kernel
theorem lcl12 : (lc12 (0, fun _ => 0)).1.1 = 13 := by decide +kernel
theorem lcl13 : (lc13 (0, fun _ => 0)).1.1 = 13 := by decide +kernel
theorem lcl14 : (lc14 (0, fun _ => 0)).1.1 = 23 := by decide +kernel
theorem lcl15 : (lc15 (0, fun _ => 0)).1.1 = 23 := by decide +kernel
theorem lcl16 : (lc16 (0, fun _ => 0)).1.1 = 13 := by decide +kernel
theorem lcl17 : (lc17 (0, fun _ => 0)).1.1 = 33 := by decide +kernel
theorem lcl18 : (lc18 (0, fun _ => 0)).1.1 = 23 := by decide +kernel
theorem lcl19 : (lc19 (0, fun _ => 0)).1.1 = 43 := by decide +kernel
theorem lcl20 : (lc20 (0, fun _ => 0)).1.1 = 33 := by decide +kernel
theorem lcl21 : (lc21 (0, fun _ => 0)).1.1 = 33 := by decide +kernel
theorem lcl22 : (lc22 (0, fun _ => 0)).1.1 = 23 := by decide +kernel
theorem lcl23 : (lc23 (0, fun _ => 0)).1.1 = 23 := by decide +kernel
theorem lcl24 : (lc24 (0, fun _ => 0)).1.1 = 13 := by decide +kernel
theorem lcl25 : (lc25 (0, fun _ => 0)).1.1 = 23 := by decide +kernel
theorem lcl26 : (lc26 (0, fun _ => 0)).1.1 = 23 := by decide +kernel
theorem lcl27 : (lc27 (0, fun _ => 0)).1.1 = 33 := by decide +kernel
theorem lcl28 : (lc28 (0, fun _ => 0)).1.1 = 23 := by decide +kernel
theorem lcl29 : (lc29 (0, fun _ => 0)).1.1 = 33 := by decide +kernel
theorem lcl30 : (lc30 (0, fun _ => 0)).1.1 = 33 := by decide +kernel
theorem lcl31 : (lc31 (0, fun _ => 0)).1.1 = 33 := by decide +kernel
theorem lcl32 : (lc32 (0, fun _ => 0)).1.1 = 87 := by decide +kernel
theorem lcl33 : (lc33 (0, fun _ => 0)).1.1 = 33 := by decide +kernel
theorem lcl34 : (lc34 (0, fun _ => 0)).1.1 = 23 := by decide +kernel
theorem lcl35 : (lc35 (0, fun _ => 0)).1.1 = 33 := by decide +kernel
theorem lcl36 : (lc36 (0, fun _ => 0)).1.1 = 33 := by decide +kernel
theorem lcl37 : (lc37 (0, fun _ => 0)).1.1 = 33 := by decide +kernel
theorem lcl38 : (lc38 (0, fun _ => 0)).1.1 = 13 := by decide +kernel
theorem lcl39 : (lc39 (0, fun _ => 0)).1.1 = 23 := by decide +kernel
theorem lcl40 : (lc40 (0, fun _ => 0)).1.1 = 75 := by decide +kernel
theorem lcl41 : (lc41 (0, fun _ => 0)).1.1 = 23 := by decide +kernel
theorem lcl42 : (lc42 (0, fun _ => 0)).1.1 = 23 := by decide +kernel
theorem lcl43 : (lc43 (0, fun _ => 0)).1.1 = 13 := by decide +kernel
theorem lcl44 : (lc44 (0, fun _ => 0)).1.1 = 0 := by decide +kernel
theorem lck0 : (lc0 (0, fun _ => 0)).1.2.1 code 224 247 1512 1512 = true := by decide +kernel
theorem lck1 : (lc1 (0, fun _ => 0)).1.2.1 code 247 290 1512 1512 = true := by decide +kernel
theorem lck2 : (lc2 (0, fun _ => 0)).1.2.1 code 290 323 1512 1512 = true := by decide +kernel
theorem lck3 : (lc3 (0, fun _ => 0)).1.2.1 code 323 376 1512 1512 = true := by decide +kernel
theorem lck4 : (lc4 (0, fun _ => 0)).1.2.1 code 376 409 1512 1512 = true := by decide +kernel
theorem lck5 : (lc5 (0, fun _ => 0)).1.2.1 code 409 432 1512 1512 = true := by decide +kernel
theorem lck6 : (lc6 (0, fun _ => 0)).1.2.1 code 432 495 1512 1512 = true := by decide +kernel
theorem lck7 : (lc7 (0, fun _ => 0)).1.2.1 code 495 518 1512 1512 = true := by decide +kernel
theorem lck8 : (lc8 (0, fun _ => 0)).1.2.1 code 518 531 1512 1512 = true := by decide +kernel
theorem lck9 : (lc9 (0, fun _ => 0)).1.2.1 code 531 544 1512 1512 = true := by decide +kernel
theorem lck10 : (lc10 (0, fun _ => 0)).1.2.1 code 544 567 1512 1512 = true := by decide +kernel
theorem lck11 : (lc11 (0, fun _ => 0)).1.2.1 code 567 590 1512 1512 = true := by decide +kernel
theorem lck12 : (lc12 (0, fun _ => 0)).1.2.1 code 590 603 1512 1512 = true := by decide +kernel
theorem lck13 : (lc13 (0, fun _ => 0)).1.2.1 code 603 616 1512 1512 = true := by decide +kernel
theorem lck14 : (lc14 (0, fun _ => 0)).1.2.1 code 616 639 1512 1512 = true := by decide +kernel
theorem lck15 : (lc15 (0, fun _ => 0)).1.2.1 code 639 662 1512 1512 = true := by decide +kernel
theorem lck16 : (lc16 (0, fun _ => 0)).1.2.1 code 662 675 1512 1512 = true := by decide +kernel
theorem lck17 : (lc17 (0, fun _ => 0)).1.2.1 code 675 708 1512 1512 = true := by decide +kernel
theorem lck18 : (lc18 (0, fun _ => 0)).1.2.1 code 708 731 1512 1512 = true := by decide +kernel
theorem lck19 : (lc19 (0, fun _ => 0)).1.2.1 code 731 774 1512 1512 = true := by decide +kernel
theorem lck20 : (lc20 (0, fun _ => 0)).1.2.1 code 774 807 1512 1512 = true := by decide +kernel
theorem lck21 : (lc21 (0, fun _ => 0)).1.2.1 code 807 840 1512 1512 = true := by decide +kernel
theorem lck22 : (lc22 (0, fun _ => 0)).1.2.1 code 840 863 1512 1512 = true := by decide +kernel
theorem lck23 : (lc23 (0, fun _ => 0)).1.2.1 code 863 886 1512 1512 = true := by decide +kernel
theorem lck24 : (lc24 (0, fun _ => 0)).1.2.1 code 886 899 1512 1512 = true := by decide +kernel
theorem lck25 : (lc25 (0, fun _ => 0)).1.2.1 code 899 922 1512 1512 = true := by decide +kernel
theorem lck26 : (lc26 (0, fun _ => 0)).1.2.1 code 922 945 1512 1512 = true := by decide +kernel
theorem lck27 : (lc27 (0, fun _ => 0)).1.2.1 code 945 978 1512 1512 = true := by decide +kernel
theorem lck28 : (lc28 (0, fun _ => 0)).1.2.1 code 978 1001 1512 1512 = true := by decide +kernel
theorem lck29 : (lc29 (0, fun _ => 0)).1.2.1 code 1001 1034 1512 1512 = true := by decide +kernel
theorem lck30 : (lc30 (0, fun _ => 0)).1.2.1 code 1034 1067 1512 1512 = true := by decide +kernel
theorem lck31 : (lc31 (0, fun _ => 0)).1.2.1 code 1067 1100 1512 1512 = true := by decide +kernel
theorem lck32 : (lc32 (0, fun _ => 0)).1.2.1 code 1100 1187 1512 1512 = true := by decide +kernel
theorem lck33 : (lc33 (0, fun _ => 0)).1.2.1 code 1187 1220 1512 1512 = true := by decide +kernel
theorem lck34 : (lc34 (0, fun _ => 0)).1.2.1 code 1220 1243 1512 1512 = true := by decide +kernel
theorem lck35 : (lc35 (0, fun _ => 0)).1.2.1 code 1243 1276 1512 1512 = true := by decide +kernel
theorem lck36 : (lc36 (0, fun _ => 0)).1.2.1 code 1276 1309 1512 1512 = true := by decide +kernel
theorem lck37 : (lc37 (0, fun _ => 0)).1.2.1 code 1309 1342 1512 1512 = true := by decide +kernel
theorem lck38 : (lc38 (0, fun _ => 0)).1.2.1 code 1342 1355 1512 1512 = true := by decide +kernel
theorem lck39 : (lc39 (0, fun _ => 0)).1.2.1 code 1355 1378 1512 1512 = true := by decide +kernel
theorem lck40 : (lc40 (0, fun _ => 0)).1.2.1 code 1378 1453 1512 1512 = true := by decide +kernel
theorem lck41 : (lc41 (0, fun _ => 0)).1.2.1 code 1453 1476 1512 1512 = true := by decide +kernel
theorem lck42 : (lc42 (0, fun _ => 0)).1.2.1 code 1476 1499 1512 1512 = true := by decide +kernel
theorem lck43 : (lc43 (0, fun _ => 0)).1.2.1 code 1499 1512 1512 1512 = true := by decide +kernel
theorem lck44 : (lc44 (0, fun _ => 0)).1.2.1 code 1512 1512 1512 1512 = true := by decide +kernel
def lns : List Nat := [23, 43, 33, 53, 33, 23, 63, 23, 13, 13, 23, 23, 13, 13, 23, 23, 13, 33, 23, 43, 33, 33, 23, 23, 13, 23, 23, 33, 23, 33, 33, 33, 87, 33, 23, 33, 33, 33, 13, 23, 75, 23, 23, 13, 0]
theorem lns_ : (lcs (0, fun _ => 0)).map (fun b => b.1.1) = lns := by
  simp only [lcs, List.map_cons, List.map_nil, lcl0, lcl1, lcl2, lcl3, lcl4, lcl5, lcl6, lcl7, lcl8, lcl9, lcl10, lcl11, lcl12, lcl13, lcl14, lcl15, lcl16, lcl17, lcl18, lcl19, lcl20, lcl21, lcl22, lcl23, lcl24, lcl25, lcl26, lcl27, lcl28, lcl29, lcl30, lcl31, lcl32, lcl33, lcl34, lcl35, lcl36, lcl37, lcl38, lcl39, lcl40, lcl41, lcl42, lcl43, lcl44]
  rfl
theorem xbl_take {S : xS} (bs : List (SN S)) (j : Nat) : xbl (bs.take j) = ((bs.map (fun b => b.1.1)).take j).sum := by rw [xbl, List.map_take]
theorem xbc_s {S : xS} {cc : ByteArray} {x ct pc n q : Nat} {b d : SN S} {bs : List (SN S)} (hn : b.1.1 = n) (hq : pc + n = q) (h1 : b.1.2.1 cc pc q x ct = true) (h2 : xbc cc x ct q (d :: bs) = true) : xbc cc x ct pc (b :: d :: bs) = true := by
  subst hn hq
  rw [xbc, h2, Bool.and_true]
  exact h1
theorem xbc_e {S : xS} {cc : ByteArray} {x ct pc : Nat} {b : SN S} (h1 : b.1.2.1 cc pc x x ct = true) : xbc cc x ct pc [b] = true := by
  rw [xbc, xbc, Bool.and_true]
  exact h1
theorem seq_ck {S : xS} {cc : ByteArray} {x bt ct pc n q : Nat} {a b : SN S} (hn : a.1.1 = n) (hq : pc + n = q) (h1 : a.1.2.1 cc pc q bt ct = true) (h2 : b.1.2.1 cc q x bt ct = true) : (sSeq a b).1.2.1 cc pc x bt ct = true := by
  subst hn hq
  show (a.1.2.1 cc pc (pc + a.1.1) bt ct && b.1.2.1 cc (pc + a.1.1) x bt ct) = true
  rw [h1, h2]; rfl
theorem sc_ck {S : xS} {cc : ByteArray} {x bt ct pc n q : Nat} {a : SN S} (hn : a.1.1 = n) (hq : pc + n = q) (h1 : a.1.2.1 cc pc q bt ct = true) : (sSc a).1.2.1 cc pc x bt ct = true := by
  subst hn hq
  exact h1
theorem lp_ck {S : xS} {cc : ByteArray} {x bt ct pc n1 n2 n3 q1 q2 q3 : Nat} {c : DN S} {b u : SN S} (e1 : c.1.1 = n1) (e2 : b.1.1 = n2) (e3 : u.1.1 = n3) (f1 : pc + n1 = q1) (f2 : q1 + n2 = q2) (f3 : q2 + n3 = q3) (h0 : c.1.2.1 ≤ 8) (h1 : c.1.2.2.1 false cc pc x q1 = true) (h2 : b.1.2.1 cc q1 q2 x q2 = true) (h3 : u.1.2.1 cc q2 q3 0 0 = true) (h4 : ck cc q3 (.goto ((pc : Int) - ((q3 : Nat) : Int))) 3 = true) : (sLp c b u false).1.2.1 cc pc x bt ct = true := by
  subst e1 e2 e3 f1 f2 f3
  show (decide (c.1.2.1 ≤ 8) && c.1.2.2.1 false cc pc x (pc + c.1.1) && b.1.2.1 cc (pc + c.1.1) (if false = true then pc else pc + c.1.1 + b.1.1) x (if false = true then pc else pc + c.1.1 + b.1.1) && u.1.2.1 cc (pc + c.1.1 + b.1.1) (pc + c.1.1 + b.1.1 + u.1.1) 0 0 && ck cc (pc + c.1.1 + b.1.1 + u.1.1) (.goto ((pc : Int) - ((pc + c.1.1 + b.1.1 + u.1.1 : Nat) : Int))) 3 && (!false || decide (u.1.1 = 0))) = true
  have e : (if false = true then pc else pc + c.1.1 + b.1.1) = pc + c.1.1 + b.1.1 := rfl
  rw [e, decide_eq_true h0, h1, h2, h3, h4]
  rfl
theorem sw_ck {S : xS} {cc : ByteArray} {x bt ct pc n q q2 : Nat} {e : EN S} {pad : Nat} {lo : Int} {tab : List Nat} {df : Nat} {bs : List (SN S)} {l : List Nat} (hl : bs.map (fun b => b.1.1) = l) (e1 : e.1.1 = n) (f1 : pc + n = q) (f2 : q + (13 + pad + 4 * tab.length) = q2) (h0 : e.1.2.2.1 ≤ 8) (h1 : df ≤ l.length) (h2 : tab.all (fun j => decide (j ≤ l.length)) = true) (h3 : e.1.2.2.2.1 cc pc q = true) (h4 : ck cc q (.tableswitch (((q2 + (l.take df).sum : Nat) : Int) - ((q : Nat) : Int)) lo (lo + tab.length - 1) ((tab.map (fun j => q2 + (l.take j).sum)).map (fun t => ((t : Nat) : Int) - ((q : Nat) : Int))).toArray) (13 + pad + 4 * tab.length) = true) (h5 : xbc cc x ct q2 bs = true) : (sSw e pad lo tab df bs).1.2.1 cc pc x bt ct = true := by
  subst hl e1 f1 f2
  rw [List.length_map] at h1 h2
  show (decide (e.1.2.2.1 ≤ 8) && decide (df ≤ bs.length) && tab.all (fun j => decide (j ≤ bs.length)) && e.1.2.2.2.1 cc pc (pc + e.1.1) && ck cc (pc + e.1.1) (.tableswitch (((pc + e.1.1 + (13 + pad + 4 * tab.length) + xbl (bs.take df) : Nat) : Int) - ((pc + e.1.1 : Nat) : Int)) lo (lo + tab.length - 1) ((tab.map (fun j => pc + e.1.1 + (13 + pad + 4 * tab.length) + xbl (bs.take j))).map (fun t => ((t : Nat) : Int) - ((pc + e.1.1 : Nat) : Int))).toArray) (13 + pad + 4 * tab.length) && xbc cc x ct (pc + e.1.1 + (13 + pad + 4 * tab.length)) bs) = true
  simp only [xbl_take]
  rw [decide_eq_true h0, decide_eq_true h1, h2, h3, h4, h5]
  rfl
theorem lbs : xbc code 1512 1512 224 (lcs (0, fun _ => 0)) = true := (xbc_s lcl0 rfl lck0 (xbc_s lcl1 rfl lck1 (xbc_s lcl2 rfl lck2 (xbc_s lcl3 rfl lck3 (xbc_s lcl4 rfl lck4 (xbc_s lcl5 rfl lck5 (xbc_s lcl6 rfl lck6 (xbc_s lcl7 rfl lck7 (xbc_s lcl8 rfl lck8 (xbc_s lcl9 rfl lck9 (xbc_s lcl10 rfl lck10 (xbc_s lcl11 rfl lck11 (xbc_s lcl12 rfl lck12 (xbc_s lcl13 rfl lck13 (xbc_s lcl14 rfl lck14 (xbc_s lcl15 rfl lck15 (xbc_s lcl16 rfl lck16 (xbc_s lcl17 rfl lck17 (xbc_s lcl18 rfl lck18 (xbc_s lcl19 rfl lck19 (xbc_s lcl20 rfl lck20 (xbc_s lcl21 rfl lck21 (xbc_s lcl22 rfl lck22 (xbc_s lcl23 rfl lck23 (xbc_s lcl24 rfl lck24 (xbc_s lcl25 rfl lck25 (xbc_s lcl26 rfl lck26 (xbc_s lcl27 rfl lck27 (xbc_s lcl28 rfl lck28 (xbc_s lcl29 rfl lck29 (xbc_s lcl30 rfl lck30 (xbc_s lcl31 rfl lck31 (xbc_s lcl32 rfl lck32 (xbc_s lcl33 rfl lck33 (xbc_s lcl34 rfl lck34 (xbc_s lcl35 rfl lck35 (xbc_s lcl36 rfl lck36 (xbc_s lcl37 rfl lck37 (xbc_s lcl38 rfl lck38 (xbc_s lcl39 rfl lck39 (xbc_s lcl40 rfl lck40 (xbc_s lcl41 rfl lck41 (xbc_s lcl42 rfl lck42 (xbc_s lcl43 rfl lck43 (xbc_e lck44)))))))))))))))))))))))))))))))))))))))))))))
theorem sw_len (P : Nat × (Nat → Int32)) {e : EN (S_law P)} {pad : Nat} {lo : Int} {tab : List Nat} {df : Nat} (bs : List (SN (S_law P))) {l : List Nat} (hl : bs.map (fun b => b.1.1) = l) : (sSw e pad lo tab df bs).1.1 = e.1.1 + (13 + pad + 4 * tab.length) + l.sum := by subst hl; rfl
theorem law_sw : (sSw (eP (pB oAnd (pB (oScr (0, fun _ => 0) rfl) (pAn 0) (pIn 3)) (pBi (63)))) 2 (0) [0, 1, 2, 3, 4, 5, 6, 7, 8, 9, 10, 11, 12, 13, 14, 15, 16, 17, 18, 19, 20, 21, 22, 23, 24, 25, 26, 27, 28, 29, 30, 31, 32, 33, 34, 35, 36, 37, 38, 39, 40, 41, 42, 43] 44 (lcs (0, fun _ => 0)) : SN (S_law (0, fun _ => 0))).1.2.1 code 27 1512 1518 1512 = true :=
  sw_ck lns_ (n := 6) (q := 33) (q2 := 224) rfl rfl rfl (by decide) (by decide) (by decide) (by decide +kernel) (by decide +kernel) lbs

theorem law_sl : (sSw (eP (pB oAnd (pB (oScr (0, fun _ => 0) rfl) (pAn 0) (pIn 3)) (pBi (63)))) 2 (0) [0, 1, 2, 3, 4, 5, 6, 7, 8, 9, 10, 11, 12, 13, 14, 15, 16, 17, 18, 19, 20, 21, 22, 23, 24, 25, 26, 27, 28, 29, 30, 31, 32, 33, 34, 35, 36, 37, 38, 39, 40, 41, 42, 43] 44 (lcs (0, fun _ => 0)) : SN (S_law (0, fun _ => 0))).1.1 = 1485 := (sw_len _ _ lns_).trans (by decide +kernel)
theorem seq_l {S : xS} {a b : SN S} {n m k : Nat} (h1 : a.1.1 = n) (h2 : b.1.1 = m) (e : n + m = k) : (sSeq a b).1.1 = k := by subst h1 h2 e; rfl
theorem lp_l {S : xS} {c : DN S} {b u : SN S} {n m k l : Nat} (h1 : c.1.1 = n) (h2 : b.1.1 = m) (h3 : u.1.1 = k) (e : n + m + k + 3 = l) : (sLp c b u false).1.1 = l := by subst h1 h2 h3 e; rfl
theorem sc_l {S : xS} {a : SN S} {n : Nat} (h1 : a.1.1 = n) : (sSc a).1.1 = n := h1
theorem law_l1 : (b_law (0, fun _ => 0)).1.1 = 1520 := seq_l (n := 8) rfl (seq_l (n := 8) rfl (seq_l (sc_l (seq_l (n := 2) rfl (lp_l (n := 9) (k := 3) rfl law_sl rfl rfl) rfl)) (m := 2) rfl rfl) rfl) rfl
theorem law_0 : (b_law (0, fun _ => 0)).1.2.1 code 0 (b_law (0, fun _ => 0)).1.1 0 0 = true := by
  rw [law_l1]
  exact seq_ck (n := 8) (q := 8) rfl rfl (by decide +kernel) (seq_ck (n := 8) (q := 16) rfl rfl (by decide +kernel) (seq_ck (q := 1518) (sc_l (seq_l (n := 2) rfl (lp_l (n := 9) (k := 3) rfl law_sl rfl rfl) rfl)) rfl (sc_ck (q := 1518) (seq_l (n := 2) rfl (lp_l (n := 9) (k := 3) rfl law_sl rfl rfl) rfl) rfl (seq_ck (n := 2) (q := 18) rfl rfl (by decide +kernel) (lp_ck (n1 := 9) (n3 := 3) (q1 := 27) (q2 := 1512) (q3 := 1515) rfl law_sl rfl rfl rfl rfl (by decide) (by decide +kernel) law_sw (by decide +kernel) (by decide +kernel)))) (by decide +kernel)))
