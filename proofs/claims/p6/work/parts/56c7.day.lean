theorem day_no {x : Int64} (h : x.toInt < -135140 ∨ 157419 < x.toInt) (hs : -9000000000000000000 ≤ x.toInt ∧ x.toInt ≤ 9000000000000000000) : v_X4_dateOf x = none := by
  unfold v_X4_dateOf
  rw [dT_1970, dT_2401]
  have e1 : (135140 : Int32).toInt64.toInt = 135140 := by decide +kernel
  have e2 := add_l (x := x) (y := (135140 : Int32).toInt64) (by omega) (by omega)
  have e3 : ((292560 : Int32) - 1).toInt64.toInt = 292559 := by decide +kernel
  have e0 : (0 : Int64).toInt = 0 := rfl
  have hin : v_X4_isIn (x + (135140 : Int32).toInt64) 0 ((292560 : Int32) - 1).toInt64 = 0 := by
    refine Classical.byContradiction fun q => ?_
    have := in_iff.mp q
    rw [Int64.le_iff_toInt_le, Int64.le_iff_toInt_le] at this
    omega
  rw [if_pos hin]
