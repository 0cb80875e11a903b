theorem fu_yr {R : Nat} (h : R ≤ 800) : ((2400 : Int32).toInt - (nI (1600 + R)).toInt).toNat + 1 = 800 - R + 1 := by
  have : (2400 : Int32).toInt = 2400 := rfl
  rw [this, nI_toInt (by omega)]
  omega
theorem c366 : (366 : Int32) = nI 366 := rfl
theorem day_p {x : Int64} {X : Int} {j k r : Nat} {dy : Nat → TR} {j0 : Nat} (hX : X = x.toInt + 135140) (h1 : 0 ≤ X) (h2 : X ≤ 292559) (hj : j ≤ 800) (j1 : yS j ≤ X) (j2 : X < yS (j + 1)) (hr : X - yS j = r) (hk : k < 12) (k1 : dms (dbt (nI (1600 + j))) k ≤ r) (k2 : r < dms (dbt (nI (1600 + j))) (k + 1)) : v_X0_putDayNumber dy j0 x.toInt32 = va_up dy j0 (nI (1600 + j), nI (k + 1), nI (r - dms (dbt (nI (1600 + j))) k + 1)) := by
  unfold v_X0_putDayNumber
  have e32 : x.toInt32.toInt = x.toInt := by rw [Int64.toInt_toInt32, Int.bmod_eq_of_le (by omega) (by omega)]
  have e1 : (135140 : Int32).toInt = 135140 := rfl
  have ea := add_i (x := x.toInt32) (y := 135140) (by omega) (by omega)
  obtain ⟨R, hR⟩ : ∃ R : Nat, X = R := ⟨X.toNat, by omega⟩
  have eR : x.toInt32 + 135140 = nI R := Int32.toInt_inj.mp (by rw [nI_toInt (by omega)]; omega)
  have hij : R / 366 ≤ j := by
    rcases Nat.lt_or_ge j (R / 366) with q | q
    · have a1 := yS_m (i := j + 1) (j := R / 366) q
      have a2 := (yS_b (R / 366)).2
      omega
    · exact q
  have hR2 : R < 2 ^ 31 := by omega
  have e16 : 1600 + (x.toInt32 + 135140) / 366 = nI (1600 + R / 366) :=
    (congrArg (fun z => 1600 + z / 366) eR).trans ((congrArg (fun z => 1600 + z) (pk_div (a := R) (d := 366) hR2 (by decide) (by decide))).trans (nI_add 1600 (R / 366)))
  have ef := fu_yr (R := R / 366) (by omega)
  have key := p15_at (dy := dy) (j0 := j0) (a := x.toInt32) (X := X) hj j1 j2 hr hk k1 k2 (by omega) (800 - R / 366 + 1) (R / 366) hij (by omega)
  have h1 : ∀ q : Int32, q = nI (1600 + R / 366) → wX0_putDayNumber_15 dy j0 x.toInt32 (((2400 : Int32).toInt - q.toInt).toNat + 1) q = va_up dy j0 (nI (1600 + j), nI (k + 1), nI (r - dms (dbt (nI (1600 + j))) k + 1)) := by
    intro q hq
    subst hq
    have h2 : ∀ F : Nat, F = 800 - R / 366 + 1 → wX0_putDayNumber_15 dy j0 x.toInt32 F (nI (1600 + R / 366)) = va_up dy j0 (nI (1600 + j), nI (k + 1), nI (r - dms (dbt (nI (1600 + j))) k + 1)) := by
      intro F hF
      subst hF
      exact key
    exact h2 _ ef
  exact h1 _ e16
