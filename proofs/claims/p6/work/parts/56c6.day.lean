/-- the day of a number that is in the calendar -/
theorem day_of {x : Int64} (h1 : -135140 ≤ x.toInt) (h2 : x.toInt ≤ 157419) : ∃ t : TR, okv t ∧ v_X4_dateOf x = some t ∧ (∀ (dy : Nat → TR) (j0 : Nat), v_X0_putDayNumber dy j0 x.toInt32 = va_up dy j0 t) ∧ (v_X4_number t).toInt = x.toInt := by
  obtain ⟨X, hX⟩ : ∃ X : Int, X = x.toInt + 135140 := ⟨_, rfl⟩
  have s801 := yS_801
  obtain ⟨j, hj, j1, j2⟩ := yr_at 801 X (by omega) (by omega)
  obtain ⟨r, hr⟩ : ∃ r : Nat, X - yS j = r := ⟨(X - yS j).toNat, by omega⟩
  have hy := yl_dbt j
  have es : yS (j + 1) = yS j + yl j := rfl
  obtain ⟨k, hk, k1, k2⟩ := mo_at (dbt (nI (1600 + j))) 12 r (by rw [dms_12]; omega)
  have ek : dms (dbt (nI (1600 + j))) (k + 1) = dms (dbt (nI (1600 + j))) k + ylen (dbt (nI (1600 + j))) k := rfl
  have bk := dms_l (dbt (nI (1600 + j))) k hk
  have ed : (nI (r - dms (dbt (nI (1600 + j))) k + 1)).toInt = ((r - dms (dbt (nI (1600 + j))) k + 1 : Nat) : Int) := nI_toInt (by omega)
  have hv : okv (nI (1600 + j), nI (k + 1), nI (r - dms (dbt (nI (1600 + j))) k + 1)) := okv_mk (by omega) hk (by omega) (by omega)
  refine ⟨_, hv, day_f hX (by omega) (by omega) (by omega) j1 j2 hr hk k1 k2, fun dy j0 => day_p hX (by omega) (by omega) (by omega) j1 j2 hr hk k1 k2, ?_⟩
  rw [num_Z (by omega) hk (by omega) (by omega), ed]
  omega
