/-! An abstract heap: cells by numbers from 0 on (the machine's address is the base's size and that); what is below the base stays. -/
abbrev AC : Type := (FieldType × vp_A) ⊕ (Nat × List Value)
abbrev AH : Type := Nat × (Nat → Option AC)
/-- the base heap, slots of the classes, classes of arrays, what lies below the base (the script, texts), the script's length and ints -/
abbrev xW : Type := Heap × va_G × (FieldType → ClassId) × (Nat → Nat) × Nat × (Nat → Int32)
def xtr (w : xW) (v : Value) : Value := match v with
  | .ref a => .ref (w.1.size + a)
  | .retAddr k => .ref (w.2.2.2.1 k)
  | v => v
def xtA (w : xW) (a : vp_A) : vp_A := match a with
  | (n, .inr (.inr (.inr (.inr f)))) => (n, .inr (.inr (.inr (.inr (fun j => (f j).map (fun a => w.1.size + a))))))
  | a => a
def xcell (w : xW) (a : Nat) (c : AC) (H : Heap) : Prop := match c with
  | .inl (ty, arr) => H[w.1.size + a]? = some (vp_cell (w.2.2.1 ty) (xtA w arr))
  | .inr (ci, fs) => ∃ r : vw_C, vwCl[ci]? = some r ∧ t_OB (w.1.size + a) (w.2.1.1 ci) r.2.2 (w.2.1.2 ci) H (vp_V (fs.map (xtr w)))
def Rp (w : xW) (h : AH) (H : Heap) : Prop := H.size = w.1.size + h.1 ∧ (∀ q : Nat, q < w.1.size → H[q]? = w.1[q]?) ∧ ∀ (a : Nat) (c : AC), h.2 a = some c → xcell w a c H
def xput (h : AH) (a : Nat) (c : AC) : AH := (h.1, fun j => if j = a then some c else h.2 j)
def xnew (h : AH) (c : AC) : AH := (h.1 + 1, fun j => if j = h.1 then some c else h.2 j)
def xfree (w : xW) : Nat → Prop := fun q => w.1.size ≤ q
theorem xcell.kept {w : xW} {a : Nat} {c : AC} {H H1 : Heap} (h : xcell w a c H) (hq : H1[w.1.size + a]? = H[w.1.size + a]?) : xcell w a c H1 := by
  rcases c with ⟨ty, arr⟩ | ⟨ci, fs⟩
  · exact hq.trans h
  · obtain ⟨r, h1, h2⟩ := h
    exact ⟨r, h1, h2.kept hq⟩
theorem xcell.lt {w : xW} {a : Nat} {c : AC} {H : Heap} (h : xcell w a c H) : w.1.size + a < H.size := by
  rcases c with ⟨ty, arr⟩ | ⟨ci, fs⟩
  · exact (Array.getElem?_eq_some_iff.mp h).1
  · obtain ⟨r, h1, cell, h2, -⟩ := h
    exact (Array.getElem?_eq_some_iff.mp h2).1
theorem Rp.put {w : xW} {h : AH} {H H1 : Heap} (hR : Rp w h H) {a : Nat} {c : AC} (hc : xcell w a c H1) (hz : H1.size = H.size) (ho : ∀ q : Nat, q ≠ w.1.size + a → H1[q]? = H[q]?) : Rp w (xput h a c) H1 := by
  refine ⟨hz.trans hR.1, fun q hq => (ho q (by omega)).trans (hR.2.1 q hq), fun b d hb => ?_⟩
  simp only [xput] at hb
  by_cases e : b = a
  · subst e
    rw [if_pos rfl] at hb
    cases hb
    exact hc
  · rw [if_neg e] at hb
    exact (hR.2.2 b d hb).kept (ho _ (by omega))
theorem Rp.new {w : xW} {h : AH} {H H1 : Heap} (hR : Rp w h H) {c : AC} (hc : xcell w h.1 c H1) (hz : H1.size = H.size + 1) (ho : ∀ q : Nat, q < H.size → H1[q]? = H[q]?) : Rp w (xnew h c) H1 := by
  have h0 := hR.1
  refine ⟨by rw [hz, h0]; rfl, fun q hq => (ho q (by omega)).trans (hR.2.1 q hq), fun b d hb => ?_⟩
  simp only [xnew] at hb
  by_cases e : b = h.1
  · subst e
    rw [if_pos rfl] at hb
    cases hb
    exact hc
  · rw [if_neg e] at hb
    exact (hR.2.2 b d hb).kept (ho _ (hR.2.2 b d hb).lt)
/-! locals: a list of values; a float stands for 'nothing known' -/
def xjk : Value := .float 0
def xlive (v : Value) : Bool := match v with
  | .float _ => false
  | .double _ => false
  | _ => true
def xL (w : xW) (ls : Array Slot) (L : List Value) : Prop := ls.size = L.length ∧ lv_wf ls ∧ ∀ (i : Nat) (v : Value), L[i]? = some v → xlive v = true → ls[i]? = some (.val (xtr w v))
def xisl (v : Option Value) : Bool := match v with
  | some (.long _) => true
  | _ => false
def xs1 (L : List Value) (i : Nat) (v : Value) : List Value := match i with
  | 0 => L.set 0 v
  | j + 1 => (if xisl L[j]? = true then L.set j xjk else L).set (j + 1) v
def xs2 (L : List Value) (i : Nat) (v : Value) : List Value := (xs1 L i v).set (i + 1) xjk
theorem xtr_cat (w : xW) (v : Value) : (xtr w v).category = v.category := by cases v <;> rfl
theorem xs1_len (L : List Value) (i : Nat) (v : Value) : (xs1 L i v).length = L.length := by
  cases i with
  | zero => simp [xs1]
  | succ j => simp only [xs1]; split <;> simp
theorem xs2_len (L : List Value) (i : Nat) (v : Value) : (xs2 L i v).length = L.length := by simp [xs2, xs1_len]
theorem xs1_get (L : List Value) (i : Nat) (v : Value) {j : Nat} {u : Value} (h : (xs1 L i v)[j]? = some u) (hu : xlive u = true) : (j = i ∧ u = v) ∨ (j ≠ i ∧ L[j]? = some u ∧ ¬ (j + 1 = i ∧ u.category = 2)) := by
  have hjk : xlive xjk = false := rfl
  cases i with
  | zero =>
    simp only [xs1, List.getElem?_set] at h
    by_cases e : 0 = j
    · rw [if_pos e] at h
      split at h
      · cases h; exact Or.inl ⟨e.symm, rfl⟩
      · cases h
    · rw [if_neg e] at h
      exact Or.inr ⟨fun q => e q.symm, h, fun q => by omega⟩
  | succ k =>
    simp only [xs1] at h
    rw [List.getElem?_set] at h
    by_cases e : k + 1 = j
    · rw [if_pos e] at h
      generalize (if xisl L[k]? = true then L.set k xjk else L) = M at h
      split at h
      · cases h; exact Or.inl ⟨e.symm, rfl⟩
      · cases h
    · rw [if_neg e] at h
      right
      refine ⟨fun q => e q.symm, ?_⟩
      by_cases z : xisl L[k]? = true
      · rw [if_pos z, List.getElem?_set] at h
        by_cases e2 : k = j
        · rw [if_pos e2] at h
          split at h
          · cases h; rw [hjk] at hu; cases hu
          · cases h
        · rw [if_neg e2] at h
          exact ⟨h, fun q => e2 (by omega)⟩
      · rw [if_neg z] at h
        refine ⟨h, fun q => ?_⟩
        have : j = k := by omega
        subst this
        rw [h] at z
        cases u <;> simp [xisl, Value.category] at z q
        simp [xlive] at hu
def xprs (w : xW) (L : List Value) : List (Nat × Value) := (L.zipIdx.filter (fun q => xlive q.1)).map (fun q => (q.2, xtr w q.1))
theorem xprs_mem {w : xW} {L : List Value} {j : Nat} {u : Value} : (j, u) ∈ xprs w L ↔ ∃ v, L[j]? = some v ∧ xlive v = true ∧ u = xtr w v := by
  constructor
  · intro h
    obtain ⟨q, hq, he⟩ := List.mem_map.mp h
    obtain ⟨h1, h2⟩ := List.mem_filter.mp hq
    cases he
    have h3 := List.mem_zipIdx_iff_getElem?.mp h1
    exact ⟨q.1, h3, h2, rfl⟩
  · rintro ⟨v, h1, h2, rfl⟩
    exact List.mem_map.mpr ⟨(v, j), List.mem_filter.mpr ⟨List.mem_zipIdx_iff_getElem?.mpr h1, h2⟩, rfl⟩
theorem xL.has {w : xW} {ls : Array Slot} {L : List Value} (h : xL w ls L) : lv_has ls L.length (xprs w L) := by
  refine ⟨h.1, h.2.1, fun q hq => ?_⟩
  obtain ⟨v, h1, h2, h3⟩ := xprs_mem.mp hq
  rw [h3]
  exact h.2.2 _ _ h1 h2
theorem xL.at {w : xW} {ls : Array Slot} {L : List Value} (h : xL w ls L) {i : Nat} {v : Value} (hi : L[i]? = some v) (hv : xlive v = true) : ls[i]? = some (.val (xtr w v)) := h.2.2 i v hi hv
theorem xL.st1 {w : xW} {ls' : Array Slot} {L : List Value} {i : Nat} {v : Value} (h : lv_has ls' L.length ((i, xtr w v) :: (xprs w L).filter (fun q => !(q.1 == i) && !(q.1 + 1 == i && q.2.category == 2)))) : xL w ls' (xs1 L i v) := by
  refine ⟨h.1.trans (xs1_len L i v).symm, h.2.1, fun j u hj hu => ?_⟩
  rcases xs1_get L i v hj hu with ⟨e1, e2⟩ | ⟨e1, e2, e3⟩
  · subst e1; subst e2
    exact h.2.2 _ List.mem_cons_self
  · refine h.2.2 (j, xtr w u) (List.mem_cons_of_mem _ (List.mem_filter.mpr ⟨xprs_mem.mpr ⟨u, e2, hu, rfl⟩, ?_⟩))
    simp only [Bool.and_eq_true, Bool.not_eq_true', beq_eq_false_iff_ne, ne_eq, Bool.and_eq_false_iff, xtr_cat]
    refine ⟨e1, ?_⟩
    by_cases z : j + 1 = i
    · exact Or.inr (fun q => e3 ⟨z, q⟩)
    · exact Or.inl z
theorem xL.st2 {w : xW} {ls' : Array Slot} {L : List Value} {i : Nat} {v : Value} (h : lv_has ls' L.length ((i, xtr w v) :: (xprs w L).filter (fun q => !(q.1 == i) && (!(q.1 == i + 1) && !(q.1 + 1 == i && q.2.category == 2))))) : xL w ls' (xs2 L i v) := by
  refine ⟨h.1.trans (xs2_len L i v).symm, h.2.1, fun j u hj hu => ?_⟩
  have hjk : xlive xjk = false := rfl
  simp only [xs2] at hj
  rw [List.getElem?_set] at hj
  by_cases z0 : i + 1 = j
  · rw [if_pos z0] at hj
    split at hj
    · cases hj; rw [hjk] at hu; cases hu
    · cases hj
  · rw [if_neg z0] at hj
    rcases xs1_get L i v hj hu with ⟨e1, e2⟩ | ⟨e1, e2, e3⟩
    · subst e1; subst e2
      exact h.2.2 _ List.mem_cons_self
    · refine h.2.2 (j, xtr w u) (List.mem_cons_of_mem _ (List.mem_filter.mpr ⟨xprs_mem.mpr ⟨u, e2, hu, rfl⟩, ?_⟩))
      simp only [Bool.and_eq_true, Bool.not_eq_true', beq_eq_false_iff_ne, ne_eq, Bool.and_eq_false_iff, xtr_cat]
      refine ⟨e1, fun q => z0 q.symm, ?_⟩
      by_cases z : j + 1 = i
      · exact Or.inr (fun q => e3 ⟨z, q⟩)
      · exact Or.inl z
