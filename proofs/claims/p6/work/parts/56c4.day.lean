theorem c64 : (135140 : Int32).toInt64.toInt = 135140 := by decide +kernel
theorem c64b : ((292560 : Int32) - 1).toInt64.toInt = 292559 := by decide +kernel
theorem day_f {x : Int64} {X : Int} {j k r : Nat} (hX : X = x.toInt + 135140) (h1 : 0 ≤ X) (h2 : X ≤ 292559) (hj : j ≤ 800) (j1 : yS j ≤ X) (j2 : X < yS (j + 1)) (hr : X - yS j = r) (hk : k < 12) (k1 : dms (dbt (nI (1600 + j))) k ≤ r) (k2 : r < dms (dbt (nI (1600 + j))) (k + 1)) : v_X4_dateOf x = some (nI (1600 + j), nI (k + 1), nI (r - dms (dbt (nI (1600 + j))) k + 1)) := by
  unfold v_X4_dateOf
  rw [dT_1970, dT_2401]
  have e1 := c64
  have e2 := add_l (x := x) (y := (135140 : Int32).toInt64) (by omega) (by omega)
  have e3 := c64b
  have e0 : (0 : Int64).toInt = 0 := rfl
  have hin : ¬ v_X4_isIn (x + (135140 : Int32).toInt64) 0 ((292560 : Int32) - 1).toInt64 = 0 := in_iff.mpr (by
    rw [Int64.le_iff_toInt_le, Int64.le_iff_toInt_le]
    omega)
  rw [if_neg hin]
  generalize x + (135140 : Int32).toInt64 = z at e2
  have y0 : yS 0 = 0 := rfl
  have ez : z.toInt = X - yS 0 := by omega
  exact d34_at (X := X) hj j1 j2 hr hk k1 k2 _ 0 z (Nat.zero_le _) ez (Nat.lt_succ_self _)
