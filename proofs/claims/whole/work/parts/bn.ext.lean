/-! group and table speak of basis and right side alone, walks of columns too -/
theorem zi_ext {r r' : Nat → Int32} (h : ∀ j, 3 ≤ j → j < 15 → r j = r' j) : ∀ j, 3 ≤ j → j < 15 → zi r j = zi r' j := fun j h1 h2 => by rw [zi, zi, h j h1 h2]
theorem cofI_ext {r r' : Nat → Int32} (h : ∀ j, 3 ≤ j → j < 15 → r j = r' j) : cofI r = cofI r' := by
  funext i j
  rw [cofI, cofI, h _ (by omega) (by omega), h (3 + 3 * ((i + 2) % 3) + (j + 2) % 3) (by omega) (by omega), h (3 + 3 * ((i + 1) % 3) + (j + 2) % 3) (by omega) (by omega), h (3 + 3 * ((i + 2) % 3) + (j + 1) % 3) (by omega) (by omega)]
theorem cofZ_ext {r r' : Nat → Int32} (h : ∀ j, 3 ≤ j → j < 15 → r j = r' j) : cofZ (zi r) = cofZ (zi r') := by
  have z := zi_ext h
  funext i j
  rw [cofZ, cofZ, z _ (by omega) (by omega), z (3 + 3 * ((i + 2) % 3) + (j + 2) % 3) (by omega) (by omega), z (3 + 3 * ((i + 1) % 3) + (j + 2) % 3) (by omega) (by omega), z (3 + 3 * ((i + 2) % 3) + (j + 1) % 3) (by omega) (by omega)]
theorem detI_ext {r r' : Nat → Int32} (h : ∀ j, 3 ≤ j → j < 15 → r j = r' j) : detI r = detI r' := by
  rw [detI, detI, cofI_ext h, h 3 (by omega) (by omega), h 4 (by omega) (by omega), h 5 (by omega) (by omega)]
theorem hmR_ext {r r' : Nat → Int32} (h : ∀ j, 3 ≤ j → j < 15 → r j = r' j) : e9 (hmR r) (hmR r') := e9_herm (fun k hk => h (3 + k) (by omega) (by omega))
theorem lrN_ext {r r' : Nat → Int32} (h : ∀ j, 3 ≤ j → j < 15 → r j = r' j) : lrN r = lrN r' := by
  have hh := hmR_ext h
  have a1 : gB r = gB r' := by rw [gB, gB, hh 4 (by omega)]
  have a2 : gC r = gC r' := by rw [gC, gC, hh 8 (by omega)]
  funext e i
  rw [lrN, lrN, a1, a2]
theorem nbG_ext {r r' : Nat → Int32} (h : ∀ j, 3 ≤ j → j < 15 → r j = r' j) : nbG r 3 3 = nbG r' 3 3 :=
  xfo_congr 3 (fun i x hi => xfo_congr 3 (fun j y hj => by rw [h _ (by omega) (by omega)]))
theorem mnG_ext {r r' : Nat → Int32} (h : ∀ j, 3 ≤ j → j < 15 → r j = r' j) : mnG r 3 = mnG r' 3 :=
  xfo_congr 3 (fun i x hi => xfo_congr 3 (fun j y hj => by rw [cofZ_ext h]))
theorem xGp_ext {r r' : Nat → Int32} {τ : XS} (h : ∀ j, 3 ≤ j → j < 15 → r j = r' j) (hg : xGp r τ) : xGp r' τ := by
  obtain ⟨e1, e2, e3⟩ := gp_ext h
  have e4 : sgI r = sgI r' := by funext x; rw [sgI, sgI, detI_ext h]
  rw [xGp, ← e1, ← e2, ← e3, ← detI_ext h, ← e4, ← cofI_ext h, ← nbG_ext h, ← mnG_ext h, ← lrN_ext h]
  exact ⟨hg.1, hg.2.1, fun h0 => ⟨(hg.2.2 h0).1, fun k hk => ((hg.2.2 h0).2.1 k hk).trans (hmR_ext h k hk), (hg.2.2 h0).2.2⟩⟩
theorem tbl_ext {r r' : Nat → Int32} {m : Nat} (h : ∀ j, 3 ≤ j → j < 15 → r j = r' j) : tbl r m = tbl r' m := by
  obtain ⟨e1, e2, e3⟩ := gp_ext h
  have e4 : ivZ r = ivZ r' := by funext i j; rw [ivZ, ivZ, detI_ext h, cofZ_ext h]
  have e5 : wtZ r = wtZ r' := by funext u j; rw [wtZ, wtZ, e4]
  have e6 : wtN r = wtN r' := by funext u j; rw [wtN, wtN, e5, e1]
  have e7 : uwT r = uwT r' := by funext i; rw [uwT, uwT, wtT, wtT, e6]
  have e8 : arT r = arT r' := by funext w n l; rw [arT, arT, e7, e1]
  have e9 : ∀ n f k l, clT r n f k l = clT r' n f k l := by
    intro n f
    induction f with
    | zero => intro k l; rfl
    | succ f ih =>
      intro k l
      rw [clT, clT, e8]
      split
      · exact ih _ _
      · rfl
  have ea : pvN r = pvN r' := by funext w e; rw [pvN, pvN, lrN_ext h, e1]
  have eb : gmC r = gmC r' := by funext w; rw [gmC, gmC, ea, e1, e3]
  have ec : fnC r = fnC r' := by funext w e; rw [fnC, fnC, eb, e1]
  have ed : tbS r = tbS r' := by funext t w; rw [tbS, tbS, ea, e3, e1, ec]
  rw [tbl, tbl, tbF, tbF, ed, chF, chF, e9, e1]
theorem jdO_ext {n0 : Nat} {r r' : Nat → Int32} {v : Nat → Nat} {τ : XS} {a : Nat} (h : ∀ j, 3 ≤ j → j < 15 → r j = r' j) (hj : jdO n0 r v τ a) : jdO n0 r' v τ a := by
  obtain ⟨e1, e2, e3⟩ := gp_ext h
  rw [jdO, jdV, rkN, syB, ← e1, ← e2, ← e3]
  exact hj
theorem xTb_ext {n0 : Nat} {r r' : Nat → Int32} {m : Nat} {τ : XS} (h : ∀ j, 3 ≤ j → j < 15 → r j = r' j) (ht : xTb n0 r m τ) : xTb n0 r' m τ := by
  obtain ⟨e1, e2, e3⟩ := gp_ext h
  rw [xTb, ← e1, ← e3, ← tbl_ext h]
  refine ⟨ht.1, fun h0 => ⟨(ht.2 h0).1, fun i hi => ?_⟩⟩
  obtain ⟨v, v1, v2, v3, v4⟩ := (ht.2 h0).2 i hi
  exact ⟨v, v1, v2, v3, jdO_ext h v4⟩
/-- walks -/
theorem rxI_cg {S : Nat → Nat → Nat} {el el' wt wt' : Nat → Nat} {K e : Nat} (h1 : ∀ k, k < K → el k = el' k) (h2 : ∀ k, k < K → wt k = wt' k) (p : LB × Bool) : rxI S el wt e K p = rxI S el' wt' e K p :=
  xfo_congr K (fun k x hk => by rw [rxS, rxS, h1 k hk, h2 k hk])
theorem lbF_cg {S : Nat → Nat → Nat} {el el' wt wt' : Nat → Nat} {K D : Nat} (h1 : ∀ k, k < K → el k = el' k) (h2 : ∀ k, k < K → wt k = wt' k) : lbF S el wt K D = lbF S el' wt' K D := by
  have : ∀ n, lbR S el wt K D n = lbR S el' wt' K D n := by
    intro n
    induction n with
    | zero => rfl
    | succ n ih =>
      rw [lbR, lbR, ih, rxR, rxR, xfo_congr D (fun e x _ => rxI_cg h1 h2 x)]
  exact this D
theorem xWk_ext {r r' : Nat → Int32} {nc : Nat} {τ : XS} (h : ∀ j, 3 ≤ j → j < 39 → r j = r' j) (hc : nc ≤ 6) (hw : xWk r nc τ) : xWk r' nc τ := by
  have h' : ∀ j, 3 ≤ j → j < 15 → r j = r' j := fun j a b => h j a (by omega)
  obtain ⟨e1, e2, e3⟩ := gp_ext h'
  have hh := hmR_ext h'
  have ee : elN r = elN r' := by
    have a0 : gA r = gA r' := by rw [gA, gA, hh 0 (by omega)]
    have a1 : gB r = gB r' := by rw [gB, gB, hh 4 (by omega)]
    have a2 : gC r = gC r' := by rw [gC, gC, hh 8 (by omega)]
    have a3 : gP r = gP r' := by rw [gP, gP, hh 3 (by omega)]
    have a4 : gQ r = gQ r' := by rw [gQ, gQ, hh 6 (by omega)]
    have a5 : gR r = gR r' := by rw [gR, gR, hh 7 (by omega)]
    funext x y z
    rw [elN, elN, a0, a1, a2, a3, a4, a5]
  have em : ∀ k, k < nc → mdN r k = mdN r' k := fun k hk => by
    rw [mdN, mdN, ee, h _ (by omega) (by omega), h (15 + 4 * k + 1) (by omega) (by omega), h (15 + 4 * k + 2) (by omega) (by omega)]
  have ec : ∀ k, k < nc → ctN r k = ctN r' k := fun k hk => by
    rw [ctN, ctN, h _ (by omega) (by omega)]
  have et : ∀ k, k < nc → wtW (ctN r) k = wtW (ctN r') k := fun k hk => by rw [wtW, wtW, ec k hk]
  have ew : wkF r nc = wkF r' nc := by
    rw [wkF, wkF, ← e1, ← e2]
    exact lbF_cg em et
  have ev : ∀ t i, i < 3 → bsV r nc t i = bsV r' nc t i := fun t i hi => by
    rw [bsV, bsV, h (12 + i) (by omega) (by omega)]
    exact xfo_congr nc (fun c x hx => by rw [h _ (by omega) (by omega)])
  have eb : ∀ t i, bsW r nc t i = bsW r' nc t i := fun t i => by
    rw [bsW, bsW, detI_ext h', byA, byA, cofI_ext h']
    congr 1
    exact xfo_congr 3 (fun j y hj => by rw [ev t j hj])
  have ep : ∀ t, bsP r nc t = bsP r' nc t := fun t => by rw [bsP, bsP, eb, eb, eb]
  have es : shT r nc = shT r' nc := by funext k; rw [shT, shT, ew, e3]
  have el : ∀ l, wlN r nc l = wlN r' nc l := fun l => by
    have cs : csN (fun c => l.getD c 0) (ctN r) nc 6 = csN (fun c => l.getD c 0) (ctN r') nc 6 := by
      rw [csN, csN]
      exact xfo_congr 6 (fun j y hj => by
        by_cases z : j < nc
        · rw [if_pos z, if_pos z, ec j z]
        · rw [if_neg z, if_neg z])
    have : wT r nc l = wT r' nc l := by
      funext k
      rw [wT, wT, cs]
    rw [wlN, wlN, this]
  have eg : ∀ l, tgB r nc l = tgB r' nc l := fun l => by
    have : elW (sNr r) (mdN r) (fun c => l.getD c 0) nc = elW (sNr r') (mdN r') (fun c => l.getD c 0) nc := by
      rw [← e2]
      exact xfo_congr nc (fun c x hc => by rw [em c hc])
    rw [tgB, tgB, this, e3]
  have eh : whF r nc = whF r' nc := by
    have : whS r nc = whS r' nc := by funext l b; simp only [whS, eg, ep, el]
    rw [whF, whF, this]
  rw [xWk, ← e1, ← e3, ← ew, ← es, ← eh]
  intro h0
  obtain ⟨w1, w2, w3, w4, w5, w6⟩ := hw h0
  exact ⟨w1, fun k hk => by rw [← em k hk]; exact w2 k hk, fun k hk => by rw [← et k hk]; exact w3 k hk, w4, fun z => ⟨by rw [← ep]; exact (w5 z).1, fun i hi => by rw [← eb]; exact (w5 z).2 i hi⟩, w6⟩
