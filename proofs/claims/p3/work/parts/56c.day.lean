/-! the date of a number, on both sides -/
theorem dms_ge : ∀ (b : Bool) (k : Nat), k < 12 → k ≤ dms b k := by decide
theorem fu_12 : ((12 : Int32).toInt - (1 : Int32).toInt).toNat + 1 = 12 := by decide
theorem i32_1 : (1 : Int32) = nI (0 + 1) := rfl
theorem i32_1600 : (1600 : Int32) = nI (1600 + 0) := rfl
theorem d77_at {y : Int32} {k x : Nat} (hk : k < 12) (h1 : dms (dbt y) k ≤ x) (h2 : x < dms (dbt y) (k + 1)) : ∀ (n m : Nat) (lg : Int64), m ≤ k → lg.toInt = (x : Int) - dms (dbt y) m → k - m < n → wX4_dateOf_77 y n (nI (m + 1)) lg = some (y, nI (k + 1), nI (x - dms (dbt y) k + 1)) := by
  intro n
  induction n with
  | zero => intro m lg _ _ h; omega
  | succ n ih =>
    intro m lg hm hl hn
    rw [wX4_dateOf_77]
    have hb := dms_l (dbt y) m (by omega)
    have hk2 := dms_l (dbt y) k hk
    have es : dms (dbt y) (m + 1) = dms (dbt y) m + ylen (dbt y) m := rfl
    have ek : dms (dbt y) (k + 1) = dms (dbt y) k + ylen (dbt y) k := rfl
    have eL : (v_X4_length y (nI (m + 1))).toInt64.toInt = (ylen (dbt y) m : Int) := by rw [Int32.toInt_toInt64, len_Z y (by omega)]
    by_cases c : lg_cmp lg (v_X4_length y (nI (m + 1))).toInt64 < 0
    · rw [if_pos c]
      have c1 := (lg_cmp_lt _ _).mp c
      rw [Int64.lt_iff_toInt_lt, eL] at c1
      have e : m = k := by
        rcases Nat.lt_or_ge m k with q | q
        · have := dms_m (b := dbt y) (i := m + 1) (k := k) q
          omega
        · omega
      subst e
      have e32 : lg.toInt32 = nI (x - dms (dbt y) m) := Int32.toInt_inj.mp (by
        rw [Int64.toInt_toInt32, nI_toInt (by omega), Int.bmod_eq_of_le (by omega) (by omega)]
        omega)
      rw [e32, nI_1]
    · rw [if_neg c]
      have c1 : ¬ lg < (v_X4_length y (nI (m + 1))).toInt64 := fun q => c ((lg_cmp_lt _ _).mpr q)
      rw [Int64.lt_iff_toInt_lt, eL] at c1
      have e : m ≠ k := by
        intro q
        subst q
        omega
      have es2 := sub_l (x := lg) (y := (v_X4_length y (nI (m + 1))).toInt64) (by omega) (by omega)
      rw [nI_1]
      exact ih (m + 1) _ (by omega) (by omega) (by omega)
theorem p48_at {y : Int32} {k x : Nat} {dy : Nat → TR} {j0 : Nat} (hk : k < 12) (h1 : dms (dbt y) k ≤ x) (h2 : x < dms (dbt y) (k + 1)) : ∀ (n m : Nat) (rs : Int32), m ≤ k → rs.toInt = (x : Int) - dms (dbt y) m → k - m < n → wX0_putDayNumber_48 dy j0 y n (nI (m + 1)) rs = va_up dy j0 (y, nI (k + 1), nI (x - dms (dbt y) k + 1)) := by
  intro n
  induction n with
  | zero => intro m lg _ _ h; omega
  | succ n ih =>
    intro m rs hm hl hn
    rw [wX0_putDayNumber_48, dom_len y m (by omega)]
    have hb := dms_l (dbt y) m (by omega)
    have hk2 := dms_l (dbt y) k hk
    have es : dms (dbt y) (m + 1) = dms (dbt y) m + ylen (dbt y) m := rfl
    have ek : dms (dbt y) (k + 1) = dms (dbt y) k + ylen (dbt y) k := rfl
    have eL := len_Z y (m := m) (by omega)
    have fin : m = k → v_X0_put dy j0 y (nI (m + 1)) (rs + 1) = va_up dy j0 (y, nI (k + 1), nI (x - dms (dbt y) k + 1)) := by
      intro e
      subst e
      have e32 : rs = nI (x - dms (dbt y) m) := Int32.toInt_inj.mp (by rw [nI_toInt (by omega)]; omega)
      rw [e32, nI_1]
      rfl
    by_cases c0 : 12 ≤ nI (m + 1)
    · rw [if_pos c0]
      have c1 := (nI_leI (a := 12) (b := m + 1) (by omega) (by omega)).mp c0
      exact fin (by omega)
    · rw [if_neg c0]
      by_cases c : rs < v_X4_length y (nI (m + 1))
      · rw [if_pos c]
        rw [Int32.lt_iff_toInt_lt, eL] at c
        refine fin ?_
        rcases Nat.lt_or_ge m k with q | q
        · have := dms_m (b := dbt y) (i := m + 1) (k := k) q
          omega
        · omega
      · rw [if_neg c]
        rw [Int32.lt_iff_toInt_lt, eL] at c
        have e : m ≠ k := by
          intro q
          subst q
          omega
        have es2 := sub_i (x := rs) (y := v_X4_length y (nI (m + 1))) (by omega) (by omega)
        rw [nI_1]
        exact ih (m + 1) _ (by omega) (by omega) (by omega)
theorem d34_at {X : Int} {j k x : Nat} (hj : j ≤ 800) (h1 : yS j ≤ X) (h2 : X < yS (j + 1)) (hx : X - yS j = x) (hk : k < 12) (g1 : dms (dbt (nI (1600 + j))) k ≤ x) (g2 : x < dms (dbt (nI (1600 + j))) (k + 1)) : ∀ (n i : Nat) (lf : Int64), i ≤ j → lf.toInt = X - yS i → lf.toInt.toNat < n → wX4_dateOf_34 n (nI (1600 + i)) lf = some (nI (1600 + j), nI (k + 1), nI (x - dms (dbt (nI (1600 + j))) k + 1)) := by
  intro n
  induction n with
  | zero => intro i lf _ _ h; omega
  | succ n ih =>
    intro i lf hi hl hn
    rw [wX4_dateOf_34]
    have el : (365 + v_X4_one (v_X4_isLong (nI (1600 + i)))).toInt64.toInt = yl i := by rw [Int32.toInt_toInt64]; rfl
    have b := yl_b i
    have bb := yS_b i
    have bj := yS_b (j + 1)
    have es : yS (i + 1) = yS i + yl i := rfl
    by_cases c : lg_cmp lf (365 + v_X4_one (v_X4_isLong (nI (1600 + i)))).toInt64 < 0
    · rw [if_pos c]
      have c1 := (lg_cmp_lt _ _).mp c
      rw [Int64.lt_iff_toInt_lt, el] at c1
      have e : i = j := by
        rcases Nat.lt_or_ge i j with q | q
        · have := yS_m (i := i + 1) (j := j) q
          omega
        · omega
      subst e
      have hz : lf.toInt = (x : Int) - dms (dbt (nI (1600 + i))) 0 := by
        have z : dms (dbt (nI (1600 + i))) 0 = 0 := rfl
        omega
      have hm := dms_m (b := dbt (nI (1600 + i))) (i := k) (k := k) (by omega)
      rw [i32_1]
      refine d77_at hk g1 g2 _ 0 lf (by omega) hz ?_
      have := dms_ge (dbt (nI (1600 + i))) k hk
      omega
    · rw [if_neg c]
      have c1 : ¬ lf < _ := fun q => c ((lg_cmp_lt _ _).mpr q)
      rw [Int64.lt_iff_toInt_lt, el] at c1
      have e : i ≠ j := by
        intro q
        subst q
        omega
      have e2 := sub_l (x := lf) (y := (365 + v_X4_one (v_X4_isLong (nI (1600 + i)))).toInt64) (by omega) (by omega)
      rw [nI_1]
      exact ih (i + 1) _ (by omega) (by omega) (by omega)
theorem p15_at {dy : Nat → TR} {j0 : Nat} {a : Int32} {X : Int} {j k x : Nat} (hj : j ≤ 800) (h1 : yS j ≤ X) (h2 : X < yS (j + 1)) (hx : X - yS j = x) (hk : k < 12) (g1 : dms (dbt (nI (1600 + j))) k ≤ x) (g2 : x < dms (dbt (nI (1600 + j))) (k + 1)) (ha : (a + 135140).toInt = X) : ∀ (n i : Nat), i ≤ j → j - i < n → wX0_putDayNumber_15 dy j0 a n (nI (1600 + i)) = va_up dy j0 (nI (1600 + j), nI (k + 1), nI (x - dms (dbt (nI (1600 + j))) k + 1)) := by
  intro n
  induction n with
  | zero => intro i _ h; omega
  | succ n ih =>
    intro i hi hn
    rw [wX0_putDayNumber_15]
    have b := yl_b i
    have bb := yS_b i
    have es : yS (i + 1) = yS i + yl i := rfl
    have d0 := dty_S i (by omega)
    have d1 := dty_S (i + 1) (by omega)
    have fin : i = j → wX0_putDayNumber_48 dy j0 (nI (1600 + i)) (((12 : Int32).toInt - (1 : Int32).toInt).toNat + 1) 1 (a + 135140 - v_X2_daysToYear (nI (1600 + i))) = va_up dy j0 (nI (1600 + j), nI (k + 1), nI (x - dms (dbt (nI (1600 + j))) k + 1)) := by
      intro e
      subst e
      have e2 := sub_i (x := a + 135140) (y := v_X2_daysToYear (nI (1600 + i))) (by omega) (by omega)
      have z : dms (dbt (nI (1600 + i))) 0 = 0 := rfl
      rw [fu_12, i32_1]
      exact p48_at hk g1 g2 12 0 _ (by omega) (by omega) (by omega)
    by_cases c0 : 2400 ≤ nI (1600 + i)
    · rw [if_pos c0]
      have c1 := (nI_leI (a := 2400) (b := 1600 + i) (by omega) (by omega)).mp c0
      exact fin (by omega)
    · rw [if_neg c0, nI_1]
      by_cases c : a + 135140 < v_X2_daysToYear (nI (1600 + i + 1))
      · rw [if_pos c]
        rw [Int32.lt_iff_toInt_lt, ha] at c
        have d1 : (v_X2_daysToYear (nI (1600 + i + 1))).toInt = yS (i + 1) := d1
        refine fin ?_
        rcases Nat.lt_or_ge i j with q | q
        · have := yS_m (i := i + 1) (j := j) q
          omega
        · omega
      · rw [if_neg c]
        rw [Int32.lt_iff_toInt_lt, ha] at c
        have d1 : (v_X2_daysToYear (nI (1600 + i + 1))).toInt = yS (i + 1) := d1
        have e : i ≠ j := by
          intro q
          subst q
          omega
        exact ih (i + 1) (by omega) (by omega)
theorem c64 : (135140 : Int32).toInt64.toInt = 135140 := by decide +kernel
theorem c64b : ((292560 : Int32) - 1).toInt64.toInt = 292559 := by decide +kernel
theorem day_f {x : Int64} {X : Int} {j k r : Nat} (hX : X = x.toInt + 135140) (h1 : 0 ≤ X) (h2 : X ≤ 292559) (hj : j ≤ 800) (j1 : yS j ≤ X) (j2 : X < yS (j + 1)) (hr : X - yS j = r) (hk : k < 12) (k1 : dms (dbt (nI (1600 + j))) k ≤ r) (k2 : r < dms (dbt (nI (1600 + j))) (k + 1)) : v_X4_dateOf x = some (nI (1600 + j), nI (k + 1), nI (r - dms (dbt (nI (1600 + j))) k + 1)) := by
  unfold v_X4_dateOf
  rw [dT_1970, dT_2401]
  have e1 := c64
  have e2 := add_l (x := x) (y := (135140 : Int32).toInt64) (by omega) (by omega)
  have e3 := c64b
  have e0 : (0 : Int64).toInt = 0 := rfl
  have hin : ¬ v_X4_isIn (x + (135140 : Int32).toInt64) 0 ((292560 : Int32) - 1).toInt64 = 0 := in_iff.mpr (by
    rw [Int64.le_iff_toInt_le, Int64.le_iff_toInt_le]
    omega)
  rw [if_neg hin]
  generalize x + (135140 : Int32).toInt64 = z at e2
  exact d34_at (X := X) hj j1 j2 hr hk k1 k2 _ 0 z (Nat.zero_le _) (by have y0 : yS 0 = 0 := rfl
                                                                      omega) (Nat.lt_succ_self _)
theorem fu_yr {R : Nat} (h : R ≤ 800) : ((2400 : Int32).toInt - (nI (1600 + R)).toInt).toNat + 1 = 800 - R + 1 := by
  have : (2400 : Int32).toInt = 2400 := rfl
  rw [this, nI_toInt (by omega)]
  omega
theorem c366 : (366 : Int32) = nI 366 := rfl
theorem day_p {x : Int64} {X : Int} {j k r : Nat} {dy : Nat → TR} {j0 : Nat} (hX : X = x.toInt + 135140) (h1 : 0 ≤ X) (h2 : X ≤ 292559) (hj : j ≤ 800) (j1 : yS j ≤ X) (j2 : X < yS (j + 1)) (hr : X - yS j = r) (hk : k < 12) (k1 : dms (dbt (nI (1600 + j))) k ≤ r) (k2 : r < dms (dbt (nI (1600 + j))) (k + 1)) : v_X0_putDayNumber dy j0 x.toInt32 = va_up dy j0 (nI (1600 + j), nI (k + 1), nI (r - dms (dbt (nI (1600 + j))) k + 1)) := by
  unfold v_X0_putDayNumber
  have e32 : x.toInt32.toInt = x.toInt := by rw [Int64.toInt_toInt32, Int.bmod_eq_of_le (by omega) (by omega)]
  have e1 : (135140 : Int32).toInt = 135140 := rfl
  have ea := add_i (x := x.toInt32) (y := 135140) (by omega) (by omega)
  obtain ⟨R, hR⟩ : ∃ R : Nat, X = R := ⟨X.toNat, by omega⟩
  have eR : x.toInt32 + 135140 = nI R := Int32.toInt_inj.mp (by rw [nI_toInt (by omega)]; omega)
  have hij : R / 366 ≤ j := by
    rcases Nat.lt_or_ge j (R / 366) with q | q
    · have a1 := yS_m (i := j + 1) (j := R / 366) q
      have a2 := (yS_b (R / 366)).2
      omega
    · exact q
  have e16 : 1600 + (x.toInt32 + 135140) / 366 = nI (1600 + R / 366) := by
    rw [eR, c366, pk_div (d := 366) (by omega) (by omega) (by omega), i32_1600, nI_add]
  rw [e16, fu_yr (by omega)]
  exact p15_at (X := X) hj j1 j2 hr hk k1 k2 (by omega) _ (R / 366) hij (by omega)
/-- the day of a number that is in the calendar -/
theorem day_of {x : Int64} (h1 : -135140 ≤ x.toInt) (h2 : x.toInt ≤ 157419) : ∃ t : TR, okv t ∧ v_X4_dateOf x = some t ∧ (∀ (dy : Nat → TR) (j0 : Nat), v_X0_putDayNumber dy j0 x.toInt32 = va_up dy j0 t) ∧ (v_X4_number t).toInt = x.toInt := by
  obtain ⟨X, hX⟩ : ∃ X : Int, X = x.toInt + 135140 := ⟨_, rfl⟩
  have s801 := yS_801
  obtain ⟨j, hj, j1, j2⟩ := yr_at 801 X (by omega) (by omega)
  obtain ⟨r, hr⟩ : ∃ r : Nat, X - yS j = r := ⟨(X - yS j).toNat, by omega⟩
  have hy := yl_dbt j
  have es : yS (j + 1) = yS j + yl j := rfl
  obtain ⟨k, hk, k1, k2⟩ := mo_at (dbt (nI (1600 + j))) 12 r (by rw [dms_12]; omega)
  have ek : dms (dbt (nI (1600 + j))) (k + 1) = dms (dbt (nI (1600 + j))) k + ylen (dbt (nI (1600 + j))) k := rfl
  have bk := dms_l (dbt (nI (1600 + j))) k hk
  have ed : (nI (r - dms (dbt (nI (1600 + j))) k + 1)).toInt = ((r - dms (dbt (nI (1600 + j))) k + 1 : Nat) : Int) := nI_toInt (by omega)
  have hv : okv (nI (1600 + j), nI (k + 1), nI (r - dms (dbt (nI (1600 + j))) k + 1)) := okv_mk (by omega) hk (by omega) (by omega)
  refine ⟨_, hv, day_f hX (by omega) (by omega) (by omega) j1 j2 hr hk k1 k2, fun dy j0 => day_p hX (by omega) (by omega) (by omega) j1 j2 hr hk k1 k2, ?_⟩
  rw [num_Z (by omega) hk (by omega) (by omega), ed]
  omega
theorem day_no {x : Int64} (h : x.toInt < -135140 ∨ 157419 < x.toInt) (hs : -9000000000000000000 ≤ x.toInt ∧ x.toInt ≤ 9000000000000000000) : v_X4_dateOf x = none := by
  unfold v_X4_dateOf
  rw [dT_1970, dT_2401]
  have e1 : (135140 : Int32).toInt64.toInt = 135140 := by decide +kernel
  have e2 := add_l (x := x) (y := (135140 : Int32).toInt64) (by omega) (by omega)
  have e3 : ((292560 : Int32) - 1).toInt64.toInt = 292559 := by decide +kernel
  have e0 : (0 : Int64).toInt = 0 := rfl
  have hin : v_X4_isIn (x + (135140 : Int32).toInt64) 0 ((292560 : Int32) - 1).toInt64 = 0 := by
    refine Classical.byContradiction fun q => ?_
    have := in_iff.mp q
    rw [Int64.le_iff_toInt_le, Int64.le_iff_toInt_le] at this
    omega
  rw [if_pos hin]
