/-! the numbers of words -/
def wcs (ct : Nat → Nat) : List Nat → Nat
  | [] => 0
  | c :: w => wcs ct w + ct c
def wcn (c : Nat) : List Nat → Nat
  | [] => 0
  | k :: w => wcn c w + (if k = c then 1 else 0)
def twT (ct : Nat → Nat) (w : List Nat) (k : Nat) : Nat := if k = 0 then wcs ct w else if k = 1 then w.length else wcn (k - 2) w
def wtW (ct : Nat → Nat) (c : Nat) : Nat := ct c * 1099511627776 + 4294967296 - pwC c
theorem wcn_le (c : Nat) : ∀ w, wcn c w ≤ w.length
  | [] => Nat.le_refl _
  | k :: w => by
    have := wcn_le c w
    rw [wcn, List.length_cons]
    split <;> omega
theorem wcs_le {ct : Nat → Nat} {K : Nat} (h : ∀ c, c < K → ct c ≤ 99) : ∀ w : List Nat, (∀ k ∈ w, k < K) → wcs ct w ≤ 99 * w.length
  | [], _ => Nat.zero_le _
  | k :: w, hw => by
    have h1 := wcs_le h w (fun j hj => hw j (List.mem_cons_of_mem _ hj))
    have h2 := h k (hw k List.mem_cons_self)
    rw [wcs, List.length_cons]
    omega
theorem tw_ok {ct : Nat → Nat} {K : Nat} (h : ∀ c, c < K → ct c ≤ 99) {w : List Nat} (hw : ∀ k ∈ w, k < K) (hl : w.length ≤ 31) : tOK (twT ct w) := by
  have h1 := wcs_le h w hw
  refine ⟨?_, ?_, fun c hc => ?_, fun z c hc => ?_⟩
  · show wcs ct w ≤ 100000; omega
  · show w.length ≤ 200; omega
  · have e : twT ct w (2 + c) = wcn c w := by rw [twT, if_neg (by omega), if_neg (by omega), show 2 + c - 2 = c by omega]
    rw [e]; have := wcn_le c w; omega
  · have e : twT ct w (2 + c) = wcn c w := by rw [twT, if_neg (by omega), if_neg (by omega), show 2 + c - 2 = c by omega]
    have z : w.length = 0 := z
    rw [e]; have := wcn_le c w; omega
theorem tm_cons (ct : Nat → Nat) (c : Nat) (w : List Nat) (hc : c < 6) : tmE (twT ct (c :: w)) = tmE (twT ct w) + pwC c := by
  have e : ∀ w : List Nat, tmE (twT ct w) = wcn 0 w * 33554432 + wcn 1 w * 1048576 + wcn 2 w * 32768 + wcn 3 w * 1024 + wcn 4 w * 32 + wcn 5 w := fun w => rfl
  rw [e, e]
  have hc' : c = 0 ∨ c = 1 ∨ c = 2 ∨ c = 3 ∨ c = 4 ∨ c = 5 := by omega
  rcases hc' with rfl | rfl | rfl | rfl | rfl | rfl <;> simp [wcn, pwC] <;> omega
theorem pwC_le (c : Nat) : pwC c ≤ 33554432 ∧ 1 ≤ pwC c := by
  rw [pwC]; split
  · omega
  · split
    · omega
    · split
      · omega
      · split
        · omega
        · split <;> omega
theorem ws_en {ct : Nat → Nat} {K : Nat} (hK : K ≤ 6) (h : ∀ c, c < K → ct c ≤ 99) : ∀ w : List Nat, (∀ k ∈ w, k < K) → w.length ≤ 31 → wsm (wtW ct) w = enT (twT ct w)
  | [], _, _ => by simp [wsm, enT, tmE, twT, wcs, wcn]
  | c :: w, hw, hl => by
    have hw' : ∀ k ∈ w, k < K := fun j hj => hw j (List.mem_cons_of_mem _ hj)
    have hl' : w.length ≤ 31 := by simp at hl; omega
    have hc : c < 6 := Nat.lt_of_lt_of_le (hw c List.mem_cons_self) hK
    have ih := ws_en hK h w hw' hl'
    obtain ⟨m1, m2⟩ := tmE_le (tw_ok h hw' hl')
    have hp := pwC_le c
    have t := tm_cons ct c w hc
    have a0 : twT ct (c :: w) 0 = twT ct w 0 + ct c := rfl
    have a1 : twT ct (c :: w) 1 = twT ct w 1 + 1 := rfl
    rw [wsm, ih, wtW, enT, enT, t, a0, a1]
    rw [Nat.add_mul, Nat.add_mul] at *
    omega
theorem tOK_congr {T I : Nat → Nat} (h : ∀ k, k < 8 → T k = I k) (hI : tOK I) : tOK T := by
  refine ⟨by rw [h 0 (by omega)]; exact hI.1, by rw [h 1 (by omega)]; exact hI.2.1, fun c hc => by rw [h (2 + c) (by omega)]; exact hI.2.2.1 c hc, fun z c hc => ?_⟩
  rw [h 1 (by omega)] at z
  rw [h (2 + c) (by omega)]; exact hI.2.2.2 z c hc
theorem en_congr {T I : Nat → Nat} (h : ∀ k, k < 8 → T k = I k) : enT T = enT I := by
  rw [enT, enT, tmE, tmE, h 0 (by omega), h 1 (by omega), h 2 (by omega), h 3 (by omega), h 4 (by omega), h 5 (by omega), h 6 (by omega), h 7 (by omega)]
section DE
variable {ct : Nat → Nat} {K : Nat}
theorem de_w (hK : K ≤ 6) (h : ∀ c, c < K → ct c ≤ 99) {w : List Nat} (hw : ∀ k ∈ w, k < K) (hl : w.length ≤ 31) {k : Nat} (hk : k < 8) : deT (wsm (wtW ct) w) k = twT ct w k := by
  rw [ws_en hK h w hw hl]; exact de_en (tw_ok h hw hl) hk
theorem de_ok (hK : K ≤ 6) (h : ∀ c, c < K → ct c ≤ 99) {w : List Nat} (hw : ∀ k ∈ w, k < K) (hl : w.length ≤ 31) : tOK (deT (wsm (wtW ct) w)) ∧ enT (deT (wsm (wtW ct) w)) = wsm (wtW ct) w := by
  have e : ∀ k, k < 8 → deT (wsm (wtW ct) w) k = twT ct w k := fun k hk => de_w hK h hw hl hk
  refine ⟨tOK_congr e (tw_ok h hw hl), ?_⟩
  rw [en_congr e]; exact (ws_en hK h w hw hl).symm
theorem de_step (hK : K ≤ 6) (h : ∀ c, c < K → ct c ≤ 99) {w : List Nat} {c : Nat} (hw : ∀ k ∈ w, k < K) (hc : c < K) (hl : w.length ≤ 30) {k : Nat} (hk : k < 8) : deT (wsm (wtW ct) w + wtW ct c) k = deT (wsm (wtW ct) w) k + (if k = 0 then ct c else if k = 1 then 1 else if k = 2 + c then 1 else 0) := by
  have hw' : ∀ j ∈ c :: w, j < K := fun j hj => by
    rcases List.mem_cons.mp hj with z | z
    · rw [z]; exact hc
    · exact hw j z
  have e1 := de_w hK h hw' (by simp; omega) hk
  have e2 := de_w hK h hw (by omega) hk
  have e1 : deT (wsm (wtW ct) w + wtW ct c) k = twT ct (c :: w) k := e1
  rw [e1, e2, twT, twT]
  by_cases k0 : k = 0
  · subst k0; rfl
  · by_cases k1 : k = 1
    · subst k1; rfl
    · rw [if_neg k0, if_neg k1, if_neg k0, if_neg k1, if_neg k0, if_neg k1, wcn]
      by_cases d : c = k - 2
      · rw [if_pos d, if_pos (by omega)]
      · rw [if_neg d, if_neg (by omega)]
end DE
