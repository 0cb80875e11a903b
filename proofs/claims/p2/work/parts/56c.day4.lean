/-- the day of a number that is in the calendar -/
theorem day_of {x : Int64} (h1 : -135140 ≤ x.toInt) (h2 : x.toInt ≤ 157419) : ∃ t : TR, okv t ∧ v_X4_dateOf x = some t ∧ (∀ (dy : Nat → TR) (j0 : Nat), v_X0_putDayNumber dy j0 x.toInt32 = va_up dy j0 t) ∧ (v_X4_number t).toInt = x.toInt := by
  obtain ⟨X, hX⟩ : ∃ X : Int, X = x.toInt + 135140 := ⟨_, rfl⟩
  have s801 := yS_801
  obtain ⟨j, hj, j1, j2⟩ := yr_at 801 X (by omega) (by omega)
  obtain ⟨r, hr⟩ : ∃ r : Nat, X - yS j = r := ⟨(X - yS j).toNat, by omega⟩
  have hy := yl_dbt j
  have es : yS (j + 1) = yS j + yl j := rfl
  obtain ⟨k, hk, k1, k2⟩ := mo_at (dbt (nI (1600 + j))) 12 r (by rw [dms_12]; omega)
  have ek : dms (dbt (nI (1600 + j))) (k + 1) = dms (dbt (nI (1600 + j))) k + ylen (dbt (nI (1600 + j))) k := rfl
  have bk := dms_l (dbt (nI (1600 + j))) k hk
  have ed : (nI (r - dms (dbt (nI (1600 + j))) k + 1)).toInt = ((r - dms (dbt (nI (1600 + j))) k + 1 : Nat) : Int) := nI_toInt (by omega)
  have hv : okv (nI (1600 + j), nI (k + 1), nI (r - dms (dbt (nI (1600 + j))) k + 1)) := okv_mk (by omega) hk (by omega) (by omega)
  refine ⟨_, hv, ?_, fun dy j0 => ?_, ?_⟩
  · unfold v_X4_dateOf
    rw [dT_1970, dT_2401]
    have e1 : (135140 : Int32).toInt64.toInt = 135140 := by decide +kernel
    have e2 := add_l (x := x) (y := (135140 : Int32).toInt64) (by omega) (by omega)
    have e3 : ((292560 : Int32) - 1).toInt64.toInt = 292559 := by decide +kernel
    have e0 : (0 : Int64).toInt = 0 := rfl
    have hin : ¬ v_X4_isIn (x + (135140 : Int32).toInt64) 0 ((292560 : Int32) - 1).toInt64 = 0 := in_iff.mpr (by
      rw [Int64.le_iff_toInt_le, Int64.le_iff_toInt_le]
      omega)
    rw [if_neg hin, i32_1600]
    exact d34_at (X := X) (by omega) j1 j2 hr hk k1 k2 _ 0 _ (Nat.zero_le _) (by show _ = X - 0; omega) (Nat.lt_succ_self _)
  · unfold v_X0_putDayNumber
    have e32 : x.toInt32.toInt = x.toInt := by rw [Int64.toInt_toInt32, Int.bmod_eq_of_le (by omega) (by omega)]
    have e1 : (135140 : Int32).toInt = 135140 := rfl
    have ea := add_i (x := x.toInt32) (y := 135140) (by omega) (by omega)
    obtain ⟨R, hR⟩ : ∃ R : Nat, X = R := ⟨X.toNat, by omega⟩
    have eR : x.toInt32 + 135140 = nI R := Int32.toInt_inj.mp (by rw [nI_toInt (by omega)]; omega)
    have ediv : (x.toInt32 + 135140) / 366 = nI (R / 366) := by
      rw [eR]
      exact pk_div (d := 366) (by omega) (by omega) (by omega)
    have e16 : 1600 + (x.toInt32 + 135140) / 366 = nI (1600 + R / 366) := by
      rw [ediv]
      exact nI_add 1600 (R / 366)
    have hij : R / 366 ≤ j := by
      rcases Nat.lt_or_ge j (R / 366) with q | q
      · have a1 := yS_m (i := j + 1) (j := R / 366) q
        have a2 := (yS_b (R / 366)).2
        omega
      · exact q
    rw [e16]
    have ef : (((2400 : Int32).toInt - (nI (1600 + R / 366)).toInt).toNat + 1) = 800 - R / 366 + 1 := by
      have : (2400 : Int32).toInt = 2400 := rfl
      rw [this, nI_toInt (by omega)]
      omega
    rw [ef]
    exact p15_at (X := X) (by omega) j1 j2 hr hk k1 k2 (by omega) _ (R / 366) hij (by omega)
  · rw [num_Z (by omega) hk (by omega) (by omega), ed]
    omega
theorem day_no {x : Int64} (h : x.toInt < -135140 ∨ 157419 < x.toInt) (hs : -9000000000000000000 ≤ x.toInt ∧ x.toInt ≤ 9000000000000000000) : v_X4_dateOf x = none := by
  unfold v_X4_dateOf
  rw [dT_1970, dT_2401]
  have e1 : (135140 : Int32).toInt64.toInt = 135140 := by decide +kernel
  have e2 := add_l (x := x) (y := (135140 : Int32).toInt64) (by omega) (by omega)
  have e3 : ((292560 : Int32) - 1).toInt64.toInt = 292559 := by decide +kernel
  have e0 : (0 : Int64).toInt = 0 := rfl
  have hin : v_X4_isIn (x + (135140 : Int32).toInt64) 0 ((292560 : Int32) - 1).toInt64 = 0 := by
    refine Classical.byContradiction fun q => ?_
    have := in_iff.mp q
    rw [Int64.le_iff_toInt_le, Int64.le_iff_toInt_le] at this
    omega
  rw [if_pos hin]
