theorem fitR {c : Nat} : ∀ (n : Nat) (j : Int32) (bt : Nat → Int32), sb_Fit bt → sb_Fit (wJ5_reverse_278bc_28 c n j bt) := by
  intro n
  induction n with
  | zero => intro j bt h; exact h
  | succ n ih =>
    intro j bt h
    rw [wJ5_reverse_278bc_28]
    by_cases c1 : j < 0
    · rw [if_pos c1]; exact h
    · rw [if_neg c1]; exact ih _ _ (sb_fitU (sb_fitU h (fit_nar _)) (fit_nar _))
theorem fitRv {bt : Nat → Int32} {c : Nat} (h : sb_Fit bt) : sb_Fit (v_J5_reverse_278bc bt c) := fitR _ _ _ h
/-- a digit is a letter -/
theorem rem_b (x : Int64) : -9 ≤ (x - x / 10 * 10).toInt ∧ (x - x / 10 * 10).toInt ≤ 9 := by
  have hl := Int64.le_toInt x
  have hr := Int64.toInt_lt x
  have e10 : (10 : Int64).toInt = 10 := rfl
  by_cases c : 0 ≤ x.toInt
  · have ed : (x / 10).toInt = x.toInt / 10 := by
      rw [Int64.toInt_div, e10, Int.tdiv_eq_ediv_of_nonneg c, Int.bmod_eq_of_le (by omega) (by omega)]
    have em : (x / 10 * 10).toInt = x.toInt / 10 * 10 := by
      rw [Int64.toInt_mul, ed, e10, Int.bmod_eq_of_le (by omega) (by omega)]
    rw [sub_l (by omega) (by omega), em]
    omega
  · obtain ⟨w, hw⟩ : ∃ w : Nat, x.toInt = -(w : Int) := ⟨x.toInt.natAbs, by omega⟩
    have e : (w : Int).tdiv 10 = (w : Int) / 10 := Int.tdiv_eq_ediv_of_nonneg (by omega)
    have ed : (x / 10).toInt = -((w : Int) / 10) := by
      rw [Int64.toInt_div, e10, hw, Int.neg_tdiv, e, Int.bmod_eq_of_le (by omega) (by omega)]
    have em : (x / 10 * 10).toInt = -((w : Int) / 10) * 10 := by
      rw [Int64.toInt_mul, ed, e10, Int.bmod_eq_of_le (by omega) (by omega)]
    rw [sub_l (by omega) (by omega), em, hw]
    omega
theorem dig_ok (x : Int64) : ¬ 255 < ((48 + (x - x / 10 * 10)).toInt32.toUInt32 % 65536).toInt32 := by
  have b := rem_b x
  generalize x - x / 10 * 10 = y at b
  have e48 : (48 : Int64).toInt = 48 := rfl
  have e : (48 + y).toInt = 48 + y.toInt := by
    rw [add_l (by omega) (by omega), e48]
  have e3 : (48 + y).toInt32.toInt = 48 + y.toInt := by
    rw [Int64.toInt_toInt32, Int.bmod_eq_of_le (by omega) (by omega), e]
  obtain ⟨k, hk⟩ : ∃ k : Nat, 48 + y.toInt = (k : Int) := ⟨(48 + y.toInt).toNat, by omega⟩
  have ek : (48 + y).toInt32 = nI k := Int32.toInt_inj.mp (by rw [e3, nI_toInt (by omega), hk])
  obtain ⟨-, h2, h3⟩ := sb_byte k (by omega)
  rw [ek, h2]
  exact Int32.not_lt.mpr h3
theorem dig_lt {n : Nat} (h : n ≤ 11) (c : ¬ 11 ≤ nI n) : n < 11 := by
  rcases Nat.lt_or_ge n 11 with q | q
  · exact q
  · exact absurd (nI_le (a := 11) (b := n) q (by omega)) c
