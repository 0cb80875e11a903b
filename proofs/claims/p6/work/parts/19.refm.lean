/-! numbers of the reference -/
theorem in_iff {x a b : Int64} : ¬ v_X4_isIn x a b = 0 ↔ a ≤ x ∧ x ≤ b := by
  unfold v_X4_isIn
  by_cases h1 : lg_cmp x a < 0
  · rw [if_pos h1]
    have h2 := (lg_cmp_lt x a).mp h1
    rw [Int64.lt_iff_toInt_lt] at h2
    constructor
    · intro h; exact absurd rfl h
    · intro h; rw [Int64.le_iff_toInt_le] at h; omega
  · rw [if_neg h1]
    have h2 : ¬ x < a := fun q => h1 ((lg_cmp_lt x a).mpr q)
    by_cases h3 : 0 < lg_cmp x b
    · rw [if_pos h3]
      have h4 := (lg_cmp_gt x b).mp h3
      rw [Int64.lt_iff_toInt_lt] at h4
      constructor
      · intro h; exact absurd rfl h
      · intro h; have := h.2; rw [Int64.le_iff_toInt_le] at this; omega
    · rw [if_neg h3]
      have h4 : ¬ b < x := fun q => h3 ((lg_cmp_gt x b).mpr q)
      rw [Int64.lt_iff_toInt_lt] at h2 h4
      constructor
      · intro _; rw [Int64.le_iff_toInt_le, Int64.le_iff_toInt_le]; omega
      · intro _; decide
theorem mo_pred {m : Int32} (h1 : 1 ≤ m) (h2 : ¬ 12 < m) : vp_in (m - 1) 12 := by
  rw [Int32.le_iff_toInt_le] at h1
  rw [Int32.lt_iff_toInt_lt] at h2
  have e1 : (1 : Int32).toInt = 1 := rfl
  have e12 : (12 : Int32).toInt = 12 := rfl
  have e : (m - 1).toInt = m.toInt - 1 := by
    rw [Int32.toInt_sub]
    show (m.toInt - 1).bmod (2 ^ 32) = _
    rw [Int.bmod_eq_of_le (by omega) (by omega)]
  rw [vp_in_iff, e]
  omega
theorem mo_in {m b : Int32} (h1 : 1 ≤ m) (h2 : ¬ b ≤ m) (h3 : ¬ 12 < b) : vp_in (m - 1) 12 := by
  refine mo_pred h1 ?_
  rw [Int32.le_iff_toInt_le] at h2
  rw [Int32.lt_iff_toInt_lt] at h3 ⊢
  omega
theorem mo_inc {m b : Int32} (h1 : 1 ≤ m) (h2 : ¬ b ≤ m) : 1 ≤ m + 1 := by
  rw [Int32.le_iff_toInt_le] at h1 h2 ⊢
  have hb := Int32.toInt_lt b
  have e1 : (1 : Int32).toInt = 1 := rfl
  have e : (m + 1).toInt = m.toInt + 1 := by
    rw [Int32.toInt_add]
    show (m.toInt + 1).bmod (2 ^ 32) = _
    rw [Int.bmod_eq_of_le (by omega) (by omega)]
  rw [e]
  omega
/-- a month out of a count of months -/
theorem om_k {x a b : Int64} (h : ¬ v_X4_isIn x a b = 0) (ha : 0 ≤ a) : ∃ k : Nat, k < 12 ∧ (x - x / 12 * 12).toInt32 = nI k := by
  have h1 := (in_iff.mp h).1
  have h2 : ¬ x < 0 := by
    rw [Int64.le_iff_toInt_le] at h1 ha
    rw [Int64.lt_iff_toInt_lt]
    have e0 : (0 : Int64).toInt = 0 := rfl
    omega
  obtain ⟨n, hn, rfl⟩ := pk_lOf h2
  refine ⟨n % 12, Nat.mod_lt _ (by decide), ?_⟩
  have e := pk_lRem (a := n) (b := 12) hn (by decide) (by decide)
  have e2 : lN n - lN n / 12 * 12 = lN (n % 12) := e
  rw [e2, lN_i]
theorem om_mo {x a b : Int64} (h : ¬ v_X4_isIn x a b = 0) (ha : 0 ≤ a) : 1 ≤ (x - x / 12 * 12).toInt32 + 1 ∧ ¬ 12 < (x - x / 12 * 12).toInt32 + 1 := by
  obtain ⟨k, hk, e⟩ := om_k h ha
  rw [e, nI_1]
  exact ⟨nI_le (a := 1) (b := k + 1) (by omega) (by omega), nI_nlt (a := 12) (b := k + 1) (by omega) (by decide)⟩
theorem om_in {x a b : Int64} (h : ¬ v_X4_isIn x a b = 0) (ha : 0 ≤ a) : vp_in ((x - x / 12 * 12).toInt32 + 1 - 1) 12 := mo_pred (om_mo h ha).1 (om_mo h ha).2
theorem one_01 (y : Int32) : (365 + v_X4_one (v_X4_isLong y)).toInt64.toInt = 365 ∨ (365 + v_X4_one (v_X4_isLong y)).toInt64.toInt = 366 := by
  unfold v_X4_one
  by_cases h : v_X4_isLong y = 0
  · rw [if_pos h]; exact Or.inl rfl
  · rw [if_neg h]; exact Or.inr rfl
/-- the years' loop goes down -/
theorem dl_dec {x y : Int64} {n : Nat} (hy : y.toInt = 365 ∨ y.toInt = 366) (h : ¬ lg_cmp x y < 0) (hn : x.toInt.toNat < n + 1) : (x - y).toInt.toNat < n ∧ 0 ≤ x - y := by
  have h1 : ¬ x < y := fun q => h ((lg_cmp_lt x y).mpr q)
  rw [Int64.lt_iff_toInt_lt] at h1
  have hx := Int64.toInt_lt x
  have e : (x - y).toInt = x.toInt - y.toInt := by
    rw [Int64.toInt_sub]
    rw [Int.bmod_eq_of_le (by omega) (by omega)]
  rw [Int64.le_iff_toInt_le, e]
  have e0 : (0 : Int64).toInt = 0 := rfl
  omega
