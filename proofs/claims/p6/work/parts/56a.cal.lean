/-! the calendar of both sides: lengths, days to a year, numbers -/
theorem dom_len (y : Int32) (m : Nat) (hm : m < 12) : v_X2_daysOfMonth y (nI (m + 1)) = v_X4_length y (nI (m + 1)) := by
  rw [len_at y m hm]
  unfold v_X2_daysOfMonth
  by_cases h : m = 1
  · subst h
    rw [if_pos (by decide)]
    unfold v_X4_isLong
    by_cases h1 : y - y / 4 * 4 = 0
    · rw [if_pos h1, if_pos h1]
      by_cases h2 : y - y / 100 * 100 = 0
      · rw [if_pos h2, if_pos h2]
        by_cases h3 : y - y / 400 * 400 = 0
        · rw [if_pos h3, if_pos h3]; rfl
        · rw [if_neg h3, if_neg h3]; rfl
      · rw [if_neg h2, if_neg h2]; rfl
    · rw [if_neg h1, if_neg h1]; rfl
  · have e : ∀ m : Nat, m < 12 → ¬ m = 1 → ¬ nI (m + 1) = 2 := by decide +kernel
    rw [if_neg (e m hm h)]
    generalize decide (v_X4_isLong y = 0) = b
    revert m b
    decide +kernel
theorem i32_mo {m : Int32} (h1 : 1 ≤ m.toInt) (h2 : m.toInt ≤ 12) : ∃ k : Nat, k < 12 ∧ m = nI (k + 1) := by
  obtain ⟨k, hk⟩ : ∃ k : Nat, m.toInt = k + 1 := ⟨(m.toInt - 1).toNat, by omega⟩
  exact ⟨k, by omega, Int32.toInt_inj.mp (by rw [nI_toInt (by omega)]; omega)⟩
theorem i32_yr {y : Int32} (h1 : 1600 ≤ y.toInt) (h2 : y.toInt ≤ 2401) : ∃ j : Nat, j ≤ 801 ∧ y = nI (1600 + j) := by
  obtain ⟨k, hk⟩ : ∃ k : Nat, y.toInt = k + 1600 := ⟨(y.toInt - 1600).toNat, by omega⟩
  exact ⟨k, by omega, Int32.toInt_inj.mp (by rw [nI_toInt (by omega)]; omega)⟩
theorem dom_len' {y m : Int32} (h1 : 1 ≤ m.toInt) (h2 : m.toInt ≤ 12) : v_X2_daysOfMonth y m = v_X4_length y m := by
  obtain ⟨k, hk, rfl⟩ := i32_mo h1 h2
  exact dom_len y k hk
theorem dty_step : ∀ j : Nat, j < 801 → (v_X2_daysToYear (nI (1600 + (j + 1)))).toInt = (v_X2_daysToYear (nI (1600 + j))).toInt + yl j := by decide +kernel
theorem dty_S : ∀ j : Nat, j ≤ 801 → (v_X2_daysToYear (nI (1600 + j))).toInt = yS j := by
  intro j
  induction j with
  | zero => intro _; decide
  | succ j ih =>
    intro h
    rw [dty_step j (by omega), ih (by omega)]
    rfl
theorem dty_eq {y : Int32} (h1 : 1600 ≤ y.toInt) (h2 : y.toInt ≤ 2401) : v_X2_daysToYear y = v_X4_daysTo y := by
  obtain ⟨j, hj, rfl⟩ := i32_yr h1 h2
  refine Int32.toInt_inj.mp ?_
  rw [dty_S j hj, dT_S (k := j) (by rw [nI_toInt (by omega)]; omega) hj]
theorem dT_1970 : v_X4_daysTo 1970 = 135140 := by
  rw [← dty_eq (by decide) (by decide)]
  decide
theorem dT_2401 : v_X4_daysTo 2401 = 292560 := by
  rw [← dty_eq (by decide) (by decide)]
  decide
theorem yS_370 : yS 370 = 135140 := by
  have h := dT_S (a := 1970) (k := 370) (by decide) (by decide)
  rw [dT_1970] at h
  exact h.symm
theorem yS_801 : yS 801 = 292560 := by
  have h := dT_S (a := 2401) (k := 801) (by decide) (by decide)
  rw [dT_2401] at h
  exact h.symm
theorem num_w {y mo d : Int32} (hm : mo.toInt ≤ 12) : ∀ (n : Nat) (mm ds : Int32), 1 ≤ mm.toInt → wX2_numberOf_12 y mo d n mm ds = wX4_number_22 (y, mo, d) n mm (ds + d - 1) := by
  intro n
  induction n with
  | zero => intro mm ds _; rfl
  | succ n ih =>
    intro mm ds h1
    rw [wX2_numberOf_12, wX4_number_22]
    by_cases c : mo ≤ mm
    · rw [if_pos c, if_pos c]
    · rw [if_neg c, if_neg c]
      rw [Int32.le_iff_toInt_le] at c
      have e1 : (1 : Int32).toInt = 1 := rfl
      have em : (mm + 1).toInt = mm.toInt + 1 := add_i (by omega) (by omega)
      rw [ih _ _ (by omega), dom_len' h1 (by omega)]
      congr 1
      show ds + v_X4_length y mm + d - 1 = ds + d - 1 + v_X4_length y mm
      generalize v_X4_length y mm = x
      grind
/-- both numbers are one -/
theorem num_eq {y mo d : Int32} (h1 : 1600 ≤ y.toInt) (h2 : y.toInt ≤ 2401) (hm : mo.toInt ≤ 12) : v_X2_numberOf y mo d = v_X4_number (y, mo, d) := by
  unfold v_X2_numberOf v_X4_number
  rw [num_w hm _ _ _ (by decide), dty_eq h1 h2, dT_1970]
theorem num_t {t : TR} (h : okd t) : v_X2_numberOf t.1 t.2.1 t.2.2 = v_X4_number t := num_eq h.1 (by have := h.2.1; omega) h.2.2.2.1
