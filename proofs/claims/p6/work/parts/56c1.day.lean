/-! the date of a number, on both sides -/
theorem dms_ge : ∀ (b : Bool) (k : Nat), k < 12 → k ≤ dms b k := by decide
theorem fu_12 : ((12 : Int32).toInt - (1 : Int32).toInt).toNat + 1 = 12 := by decide
theorem i32_1 : (1 : Int32) = nI (0 + 1) := rfl
theorem i32_1600 : (1600 : Int32) = nI (1600 + 0) := rfl
theorem d77_at {y : Int32} {k x : Nat} (hk : k < 12) (h1 : dms (dbt y) k ≤ x) (h2 : x < dms (dbt y) (k + 1)) : ∀ (n m : Nat) (lg : Int64), m ≤ k → lg.toInt = (x : Int) - dms (dbt y) m → k - m < n → wX4_dateOf_77 y n (nI (m + 1)) lg = some (y, nI (k + 1), nI (x - dms (dbt y) k + 1)) := by
  intro n
  induction n with
  | zero => intro m lg _ _ h; omega
  | succ n ih =>
    intro m lg hm hl hn
    rw [wX4_dateOf_77]
    have hb := dms_l (dbt y) m (by omega)
    have hk2 := dms_l (dbt y) k hk
    have es : dms (dbt y) (m + 1) = dms (dbt y) m + ylen (dbt y) m := rfl
    have ek : dms (dbt y) (k + 1) = dms (dbt y) k + ylen (dbt y) k := rfl
    have eL : (v_X4_length y (nI (m + 1))).toInt64.toInt = (ylen (dbt y) m : Int) := by rw [Int32.toInt_toInt64, len_Z y (by omega)]
    by_cases c : lg_cmp lg (v_X4_length y (nI (m + 1))).toInt64 < 0
    · rw [if_pos c]
      have c1 := (lg_cmp_lt _ _).mp c
      rw [Int64.lt_iff_toInt_lt, eL] at c1
      have e : m = k := by
        rcases Nat.lt_or_ge m k with q | q
        · have := dms_m (b := dbt y) (i := m + 1) (k := k) q
          omega
        · omega
      subst e
      have e32 : lg.toInt32 = nI (x - dms (dbt y) m) := Int32.toInt_inj.mp (by
        rw [Int64.toInt_toInt32, nI_toInt (by omega), Int.bmod_eq_of_le (by omega) (by omega)]
        omega)
      rw [e32, nI_1]
    · rw [if_neg c]
      have c1 : ¬ lg < (v_X4_length y (nI (m + 1))).toInt64 := fun q => c ((lg_cmp_lt _ _).mpr q)
      rw [Int64.lt_iff_toInt_lt, eL] at c1
      have e : m ≠ k := by
        intro q
        subst q
        omega
      have es2 := sub_l (x := lg) (y := (v_X4_length y (nI (m + 1))).toInt64) (by omega) (by omega)
      rw [nI_1]
      exact ih (m + 1) _ (by omega) (by omega) (by omega)
theorem p48_at {y : Int32} {k x : Nat} {dy : Nat → TR} {j0 : Nat} (hk : k < 12) (h1 : dms (dbt y) k ≤ x) (h2 : x < dms (dbt y) (k + 1)) : ∀ (n m : Nat) (rs : Int32), m ≤ k → rs.toInt = (x : Int) - dms (dbt y) m → k - m < n → wX0_putDayNumber_48 dy j0 y n (nI (m + 1)) rs = va_up dy j0 (y, nI (k + 1), nI (x - dms (dbt y) k + 1)) := by
  intro n
  induction n with
  | zero => intro m lg _ _ h; omega
  | succ n ih =>
    intro m rs hm hl hn
    rw [wX0_putDayNumber_48, dom_len y m (by omega)]
    have hb := dms_l (dbt y) m (by omega)
    have hk2 := dms_l (dbt y) k hk
    have es : dms (dbt y) (m + 1) = dms (dbt y) m + ylen (dbt y) m := rfl
    have ek : dms (dbt y) (k + 1) = dms (dbt y) k + ylen (dbt y) k := rfl
    have eL := len_Z y (m := m) (by omega)
    have fin : m = k → v_X0_put dy j0 y (nI (m + 1)) (rs + 1) = va_up dy j0 (y, nI (k + 1), nI (x - dms (dbt y) k + 1)) := by
      intro e
      subst e
      have e32 : rs = nI (x - dms (dbt y) m) := Int32.toInt_inj.mp (by rw [nI_toInt (by omega)]; omega)
      rw [e32, nI_1]
      rfl
    by_cases c0 : 12 ≤ nI (m + 1)
    · rw [if_pos c0]
      have c1 := (nI_leI (a := 12) (b := m + 1) (by omega) (by omega)).mp c0
      exact fin (by omega)
    · rw [if_neg c0]
      by_cases c : rs < v_X4_length y (nI (m + 1))
      · rw [if_pos c]
        rw [Int32.lt_iff_toInt_lt, eL] at c
        refine fin ?_
        rcases Nat.lt_or_ge m k with q | q
        · have := dms_m (b := dbt y) (i := m + 1) (k := k) q
          omega
        · omega
      · rw [if_neg c]
        rw [Int32.lt_iff_toInt_lt, eL] at c
        have e : m ≠ k := by
          intro q
          subst q
          omega
        have es2 := sub_i (x := rs) (y := v_X4_length y (nI (m + 1))) (by omega) (by omega)
        rw [nI_1]
        exact ih (m + 1) _ (by omega) (by omega) (by omega)
