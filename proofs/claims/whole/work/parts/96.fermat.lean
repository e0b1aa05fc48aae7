/-! Fermat: what inverts by a prime -/
theorem pm_prod {p a : Nat} : ∀ L : List Nat, (L.map (fun i => a * i % p)).prod % p = a ^ L.length * L.prod % p
  | [] => by simp
  | x :: L => by
    have ih := pm_prod (p := p) (a := a) L
    rw [List.map_cons, List.prod_cons, List.prod_cons, List.length_cons, Nat.pow_succ]
    rw [Nat.mul_mod, Nat.mod_mod, ih, ← Nat.mul_mod]
    congr 1
    ac_rfl
theorem cop_prod {p : Nat} : ∀ L : List Nat, (∀ x ∈ L, Nat.Coprime p x) → Nat.Coprime p L.prod
  | [], _ => by simp
  | x :: L, h => by
    rw [List.prod_cons]
    exact Nat.Coprime.mul_right (h x List.mem_cons_self) (cop_prod L (fun y hy => h y (List.mem_cons_of_mem _ hy)))
theorem fermat {p a : Nat} (hp : 1 < p) (hc : ∀ k, 0 < k → k < p → Nat.Coprime p k) (ha : 0 < a) (hap : a < p) : a ^ (p - 1) % p = 1 := by
  have hL : ∀ x, x ∈ (List.range (p - 1)).map (fun i => i + 1) ↔ 0 < x ∧ x < p := by
    intro x
    rw [List.mem_map]
    constructor
    · rintro ⟨i, hi, rfl⟩
      have := List.mem_range.mp hi
      omega
    · rintro ⟨h1, h2⟩
      exact ⟨x - 1, List.mem_range.mpr (by omega), by omega⟩
  have hLn : ((List.range (p - 1)).map (fun i => i + 1)).Nodup := by
    rw [List.nodup_iff_pairwise_ne, List.pairwise_map]
    exact (List.nodup_iff_pairwise_ne.mp List.nodup_range).imp (fun h e => h (by omega))
  have hlen : ((List.range (p - 1)).map (fun i => i + 1)).length = p - 1 := by simp
  generalize (List.range (p - 1)).map (fun i => i + 1) = L at hL hLn hlen
  have inj : ∀ x y, 0 < x → x < p → 0 < y → y ≤ x → a * x % p = a * y % p → x = y := by
    intro x y h1 h2 h3 h4 e
    have h5 : p ∣ a * x - a * y := by
      have h6 : a * y ≤ a * x := Nat.mul_le_mul_left a h4
      have e1 := Nat.div_add_mod (a * x) p
      have e2 := Nat.div_add_mod (a * y) p
      rw [e] at e1
      have e3 : a * x - a * y = p * (a * x / p) - p * (a * y / p) := by omega
      rw [e3]
      exact Nat.dvd_sub (Nat.dvd_mul_right _ _) (Nat.dvd_mul_right _ _)
    rw [← Nat.mul_sub] at h5
    have h6 := Nat.Coprime.dvd_of_dvd_mul_left (hc a ha hap) h5
    rcases Nat.eq_zero_or_pos (x - y) with z | z
    · omega
    · have := Nat.le_of_dvd z h6
      omega
  have hMn : (L.map (fun i => a * i % p)).Nodup := by
    rw [List.nodup_iff_pairwise_ne, List.pairwise_map]
    refine (List.nodup_iff_pairwise_ne.mp hLn).imp_of_mem ?_
    intro x y hx hy hne e
    have qx := (hL x).mp hx
    have qy := (hL y).mp hy
    rcases Nat.le_total y x with z | z
    · exact hne (inj x y qx.1 qx.2 qy.1 z e)
    · exact hne (inj y x qy.1 qy.2 qx.1 z e.symm).symm
  have hMs : ∀ x, x ∈ L.map (fun i => a * i % p) → 0 < x ∧ x < p := by
    intro x hx
    obtain ⟨i, hi, rfl⟩ := List.mem_map.mp hx
    have qi := (hL i).mp hi
    refine ⟨Nat.pos_of_ne_zero (fun z => ?_), Nat.mod_lt _ (by omega)⟩
    have h5 := Nat.Coprime.dvd_of_dvd_mul_left (hc a ha hap) (Nat.dvd_of_mod_eq_zero z)
    have := Nat.le_of_dvd qi.1 h5
    omega
  have hperm : List.Perm (L.map (fun i => a * i % p)) L := by
    rw [List.perm_ext_iff_of_nodup hMn hLn]
    intro x
    constructor
    · intro hx
      exact (hL x).mpr (hMs x hx)
    · intro hx
      apply Classical.byContradiction
      intro hn
      have h1 : (x :: L.map (fun i => a * i % p)).Nodup := List.nodup_cons.mpr ⟨hn, hMn⟩
      have h2 := h1.length_le_of_subset (l₂ := L) (fun y hy => by
        rcases List.mem_cons.mp hy with z | z
        · rw [z]; exact hx
        · exact (hL y).mpr (hMs y z))
      rw [List.length_cons, List.length_map] at h2
      omega
  have h1 := pm_prod (p := p) (a := a) L
  rw [hperm.prod_nat, hlen] at h1
  have hcp := cop_prod L (fun x hx => hc x ((hL x).mp hx).1 ((hL x).mp hx).2)
  have hpos : 0 < a ^ (p - 1) := Nat.pow_pos ha
  have h2 : p ∣ (a ^ (p - 1) - 1) * L.prod := by
    rw [Nat.sub_mul, Nat.one_mul]
    have e1 := Nat.div_add_mod (a ^ (p - 1) * L.prod) p
    have e2 := Nat.div_add_mod L.prod p
    rw [← h1] at e1
    have e3 : a ^ (p - 1) * L.prod - L.prod = p * (a ^ (p - 1) * L.prod / p) - p * (L.prod / p) := by omega
    rw [e3]
    exact Nat.dvd_sub (Nat.dvd_mul_right _ _) (Nat.dvd_mul_right _ _)
  have h3 := Nat.Coprime.dvd_of_dvd_mul_right hcp h2
  obtain ⟨q, hq⟩ := h3
  have h4 : a ^ (p - 1) = 1 + p * q := by omega
  rw [h4, Nat.add_mul_mod_self_left, Nat.mod_eq_of_lt hp]
theorem no_div : ∀ d : Fin 1002, 2 ≤ d.val → ¬ 1000003 % d.val = 0 := by decide +kernel
theorem cop_p {k : Nat} (h0 : 0 < k) (hk : k < 1000003) : Nat.Coprime 1000003 k := by
  have hd1 : Nat.gcd 1000003 k ∣ 1000003 := Nat.gcd_dvd_left _ _
  have hd2 : Nat.gcd 1000003 k ∣ k := Nat.gcd_dvd_right _ _
  have hle := Nat.le_of_dvd h0 hd2
  show Nat.gcd 1000003 k = 1
  generalize Nat.gcd 1000003 k = d at *
  obtain ⟨e, he⟩ := hd1
  have hd0 : 0 < d := Nat.pos_of_ne_zero (fun z => by rw [z, Nat.zero_mul] at he; omega)
  have he0 : 0 < e := Nat.pos_of_ne_zero (fun z => by rw [z, Nat.mul_zero] at he; omega)
  apply Classical.byContradiction
  intro hne
  by_cases c : d < 1002
  · exact no_div ⟨d, c⟩ (by show 2 ≤ d; omega) (by show 1000003 % d = 0; rw [he]; exact Nat.mul_mod_right _ _)
  · have he1 : e < 1002 := by
      apply Classical.byContradiction
      intro z
      have := Nat.mul_le_mul (show 1002 ≤ d by omega) (show 1002 ≤ e by omega)
      omega
    have he2 : 2 ≤ e := by
      apply Classical.byContradiction
      intro z
      have : e = 1 := by omega
      rw [this, Nat.mul_one] at he
      omega
    exact no_div ⟨e, he1⟩ he2 (by show 1000003 % e = 0; rw [he]; exact Nat.mul_mod_left _ _)
theorem fermat_p {a : Nat} (ha : 0 < a) (hap : a < 1000003) : a ^ 1000002 % 1000003 = 1 := fermat (p := 1000003) (by omega) (fun k h0 hk => cop_p h0 hk) ha hap
