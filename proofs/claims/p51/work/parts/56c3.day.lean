theorem p15_at {dy : Nat → TR} {j0 : Nat} {a : Int32} {X : Int} {j k x : Nat} (hj : j ≤ 800) (h1 : yS j ≤ X) (h2 : X < yS (j + 1)) (hx : X - yS j = x) (hk : k < 12) (g1 : dms (dbt (nI (1600 + j))) k ≤ x) (g2 : x < dms (dbt (nI (1600 + j))) (k + 1)) (ha : (a + 135140).toInt = X) : ∀ (n i : Nat), i ≤ j → j - i < n → wX0_putDayNumber_15 dy j0 a n (nI (1600 + i)) = va_up dy j0 (nI (1600 + j), nI (k + 1), nI (x - dms (dbt (nI (1600 + j))) k + 1)) := by
  intro n
  induction n with
  | zero => intro i _ h; omega
  | succ n ih =>
    intro i hi hn
    rw [wX0_putDayNumber_15]
    have b := yl_b i
    have bb := yS_b i
    have es : yS (i + 1) = yS i + yl i := rfl
    have d0 := dty_S i (by omega)
    have d1 := dty_S (i + 1) (by omega)
    have fin : i = j → wX0_putDayNumber_48 dy j0 (nI (1600 + i)) (((12 : Int32).toInt - (1 : Int32).toInt).toNat + 1) 1 (a + 135140 - v_X2_daysToYear (nI (1600 + i))) = va_up dy j0 (nI (1600 + j), nI (k + 1), nI (x - dms (dbt (nI (1600 + j))) k + 1)) := by
      intro e
      subst e
      have e2 := sub_i (x := a + 135140) (y := v_X2_daysToYear (nI (1600 + i))) (by omega) (by omega)
      have z : dms (dbt (nI (1600 + i))) 0 = 0 := rfl
      rw [fu_12, i32_1]
      exact p48_at hk g1 g2 12 0 _ (by omega) (by omega) (by omega)
    by_cases c0 : 2400 ≤ nI (1600 + i)
    · rw [if_pos c0]
      have c1 := (nI_leI (a := 2400) (b := 1600 + i) (by omega) (by omega)).mp c0
      exact fin (by omega)
    · rw [if_neg c0, nI_1]
      by_cases c : a + 135140 < v_X2_daysToYear (nI (1600 + i + 1))
      · rw [if_pos c]
        rw [Int32.lt_iff_toInt_lt, ha] at c
        have d1 : (v_X2_daysToYear (nI (1600 + i + 1))).toInt = yS (i + 1) := d1
        refine fin ?_
        rcases Nat.lt_or_ge i j with q | q
        · have := yS_m (i := i + 1) (j := j) q
          omega
        · omega
      · rw [if_neg c]
        rw [Int32.lt_iff_toInt_lt, ha] at c
        have d1 : (v_X2_daysToYear (nI (1600 + i + 1))).toInt = yS (i + 1) := d1
        have e : i ≠ j := by
          intro q
          subst q
          omega
        exact ih (i + 1) (by omega) (by omega)
