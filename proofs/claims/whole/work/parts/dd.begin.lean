/-! the law's entry -/
theorem whole_start {p : Program} {e : Env} {s : State} {m : MethodId} {below : List Frame} {meth : Method} {c : Code} (l : Launch) (hflags : l.flags = flags0) (hnm : meth.name = "law") {b L : Nat} {xs : Nat → Int32} (hL : L ≤ 4096) (C0 : lw_At p s m meth c b L xs) : W p l e room_1 s m #[Value.ref b] below meth c s.heap [] 0 0 (lw_Z below #[Value.ref b] s) (entryFrame m ([Value.ref b] : List Value).toArray 4) := by
  obtain ⟨hx, hb, hr, hml, hown, hts, hX, hbl, hlocks, hgv⟩ := C0
  have hg : ∀ c ∈ fl0, c.before #[Value.ref b] s = true := flat_of_before _ hgv
  have hK0 : ∀ k : Nat, ∃ q : ClassId × (Nat → Nat), ∀ r : vw_C, vwCl[k]? = some r → u_Kn s r.1 r.2.1 r.2.2 q.1 q.2 := fun k => by
    cases hk : vwCl[k]? with
    | none => exact ⟨(0, fun _ => 0), fun r h => by cases h⟩
    | some r0 =>
      obtain ⟨cC, iS, h⟩ := kn_at hts r0 (List.mem_of_getElem? hk)
      exact ⟨(cC, iS), fun r hr => by cases hr; exact h⟩
  obtain ⟨D, hD⟩ := Classical.axiomOfChoice hK0
  obtain ⟨f, hf⟩ := ary_at hts
  have hA : ∀ a : Nat, a < s.heap.size → ¬ s.heap.size ≤ a := fun a h => by omega
  obtain ⟨adK, adV, hS, he⟩ := st_at (A := fun q => s.heap.size ≤ q) hg hA
  have hSR := stR_at hts he
  obtain ⟨z1, z2⟩ := zz_at (A := fun q => s.heap.size ≤ q) hts hg hA
  obtain ⟨t, z2⟩ : ∃ t : Nat, va_Z "jdk/internal/util/Preconditions" "SIOOBE_FORMATTER" "Ljava/util/function/BiFunction;" .null (fun q => s.heap.size ≤ q) s s.heap ∨ va_Z "jdk/internal/util/Preconditions" "SIOOBE_FORMATTER" "Ljava/util/function/BiFunction;" (.ref t) (fun q => s.heap.size ≤ q) s s.heap := by
    rcases z2 with z | ⟨t, z⟩
    · exact ⟨0, Or.inl z⟩
    · exact ⟨t, Or.inr z⟩
  obtain ⟨ad, a0, a1, a7, a13⟩ : ∃ ad : Nat → Nat, ad 0 = b ∧ (∀ i, i < 6 → ad (1 + i) = adK i) ∧ (∀ i, i < 6 → ad (7 + i) = adV i) ∧ ad 13 = t := by
    refine ⟨fun k => if k = 0 then b else if k < 7 then adK (k - 1) else if k < 13 then adV (k - 7) else t, rfl, fun i hi => ?_, fun i hi => ?_, rfl⟩
    · show (if 1 + i = 0 then b else if 1 + i < 7 then adK (1 + i - 1) else if 1 + i < 13 then adV (1 + i - 7) else t) = _
      rw [if_neg (by omega), if_pos (by omega), Nat.add_sub_cancel_left]
    · show (if 7 + i = 0 then b else if 7 + i < 7 then adK (7 + i - 1) else if 7 + i < 13 then adV (7 + i - 7) else t) = _
      rw [if_neg (by omega), if_neg (by omega), if_pos (by omega), Nat.add_sub_cancel_left]
  have hS' : vk_S 6 xtl xtb (fun i => ad (1 + i)) (fun i => ad (7 + i)) (fun q => s.heap.size ≤ q) s s.heap := by
    refine ⟨fun i hi => ?_, fun i j hi hj e => ?_⟩
    · have h := hS.1 i hi
      rw [← a1 i hi, ← a7 i hi] at h
      exact h
    · have e : ad (1 + i) = ad (1 + j) := e
      rw [a1 i hi, a1 j hj] at e
      exact hS.2 i j hi hj e
  have hSR' : ∀ i : Nat, i < 6 → vk_R "CornerCuts" (422 + 2 * i) (xtx.getD i "") (ad (1 + i)) s := fun i hi => by rw [a1 i hi]; exact hSR i hi
  let w : xW := (s.heap, (fun k => (D k).1, fun k => (D k).2), f, ad, L, xs)
  have K : xK w s := by
    refine ⟨⟨fun k r hk => hD k r hk, hf⟩, xN_at hts, ao_at hts, ⟨hS', hSR', z1, ?_⟩, ?_, ?_⟩
    · show va_Z _ _ _ .null _ s s.heap ∨ va_Z _ _ _ (.ref (ad 13)) _ s s.heap
      rw [a13]; exact z2
    · show va_X (ad 0) L xs s s.heap
      rw [a0]; exact hX
    · show ad 0 < s.heap.size
      rw [a0]; exact hbl
  let X : xCtx := (w, (code, S_law (L, xs)), (fun r _ => r = some (.int (nI 1))), p, l, e, room_1, s, m, #[Value.ref b], below, meth, c, lw_Z below #[Value.ref b] s)
  have C : xOK X := by
    refine ⟨hx, hb, hown, fun u hu => hts u (List.mem_filter.mp hu).1, K, ⟨rfl, rfl, rfl, rfl⟩, hnm, Or.inr rfl, ?_⟩
    intro r h' H locs ls k pc hRt hrv hd hk1 hk2 hR' hl
    have hRt : r = some (.int (nI 1)) := hRt
    subst hRt
    refine va_forget (fun q hq => hl q hq) ?_
    refine W.widen (k := 600000) (n := 7302250) hk1 hk2 ?_
    exact lw_ret hx hb hr hlocks hd
  have hrun : xAt X 0 (xen [.retAddr 0] 4) [] (0, 0) (lh []) := by
    refine (b_law (L, xs)).2 X C rfl 0 (b_law (L, xs)).1.1 0 0 (law_ck (L, xs)) (by rw [Nat.zero_add]; exact xEx.rf) (xen [.retAddr 0] 4) (0, 0) (lh []) (fun _ _ _ => False) (fun _ _ _ => False) (fun _ _ _ => False) (fun r _ => r = some (.int (nI 1))) (law_run (L, xs) hL (fun _ => rfl)) (fun _ _ _ z => z.elim) (fun _ _ _ z => z.elim) (fun _ _ _ z => z.elim) (fun r h' z => ⟨z, ?_⟩)
    subst z
    exact Or.inr rfl
  have hle : (lg_sl ([Value.retAddr 0].map (xtr w))).length ≤ 4 := by rw [xent_len]; exact Nat.le_of_ble_eq_true rfl
  have hent := lv_entry ([Value.retAddr 0].map (xtr w)) hle
  have hv : ([Value.ref b] : List Value) = [Value.retAddr 0].map (xtr w) := by
    show [Value.ref b] = [Value.ref (ad 0)]
    rw [a0]
  have hE : entryFrame m ([Value.ref b] : List Value).toArray 4 = entryFrame m ([Value.retAddr 0].map (xtr w)).toArray 4 := by rw [← hv]
  rw [hE, lg_entry_eq]
  refine hrun (Nat.zero_le _) (Nat.zero_le _) (by rw [hml]; rfl) s.heap [] _ ⟨rfl, fun q hq => rfl, fun a c h => ?_⟩ (fun q hq => by cases hq) (xen_L (Nat.le_of_ble_eq_true rfl) hent)
  have h : ([] : List AC)[a]? = some c := h
  simp at h
