section
theorem c64 : (135140 : Int32).toInt64.toInt = 135140 := by decide +kernel
theorem c64b : ((292560 : Int32) - 1).toInt64.toInt = 292559 := by decide +kernel
theorem day_f {x : Int64} {X : Int} {j k r : Nat} (hX : X = x.toInt + 135140) (h1 : 0 ≤ X) (h2 : X ≤ 292559) (hj : j ≤ 800) (j1 : yS j ≤ X) (j2 : X < yS (j + 1)) (hr : X - yS j = r) (hk : k < 12) (k1 : dms (dbt (nI (1600 + j))) k ≤ r) (k2 : r < dms (dbt (nI (1600 + j))) (k + 1)) : v_X4_dateOf x = some (nI (1600 + j), nI (k + 1), nI (r - dms (dbt (nI (1600 + j))) k + 1)) := by
  unfold v_X4_dateOf
  rw [dT_1970, dT_2401]
  have e1 := c64
  have e2 := add_l (x := x) (y := (135140 : Int32).toInt64) (by omega) (by omega)
  have e3 := c64b
  have e0 : (0 : Int64).toInt = 0 := rfl
  have hin : ¬ v_X4_isIn (x + (135140 : Int32).toInt64) 0 ((292560 : Int32) - 1).toInt64 = 0 := in_iff.mpr (by
    rw [Int64.le_iff_toInt_le, Int64.le_iff_toInt_le]
    omega)
  rw [if_neg hin]
  generalize x + (135140 : Int32).toInt64 = z at e2
  have y0 : yS 0 = 0 := rfl
  have ez : z.toInt = X - yS 0 := by omega
  exact d34_at (X := X) hj j1 j2 hr hk k1 k2 _ 0 z (Nat.zero_le _) ez (Nat.lt_succ_self _)
end
section
theorem fu_yr {R : Nat} (h : R ≤ 800) : ((2400 : Int32).toInt - (nI (1600 + R)).toInt).toNat + 1 = 800 - R + 1 := by
  have : (2400 : Int32).toInt = 2400 := rfl
  rw [this, nI_toInt (by omega)]
  omega
theorem c366 : (366 : Int32) = nI 366 := rfl
theorem day_r {x : Int64} {X : Int} (hX : X = x.toInt + 135140) (h1 : 0 ≤ X) (h2 : X ≤ 292559) : (x.toInt32 + 135140).toInt = X := by
  have e32 : x.toInt32.toInt = x.toInt := by rw [Int64.toInt_toInt32, Int.bmod_eq_of_le (by omega) (by omega)]
  have e1 : (135140 : Int32).toInt = 135140 := rfl
  have ea := add_i (x := x.toInt32) (y := 135140) (by omega) (by omega)
  rw [ea, e32, e1, hX]
theorem day_R {x : Int64} {X : Int} (e0 : (x.toInt32 + 135140).toInt = X) (h1 : 0 ≤ X) (h2 : X ≤ 292559) : ∃ R : Nat, X = R ∧ R < 2 ^ 31 ∧ x.toInt32 + 135140 = nI R := by
  have hR : ((X.toNat : Nat) : Int) = X := Int.toNat_of_nonneg h1
  have h3 : X.toNat < 2 ^ 31 := by
    clear e0
    omega
  exact ⟨X.toNat, hR.symm, h3, Int32.toInt_inj.mp ((e0.trans hR.symm).trans (nI_toInt h3).symm)⟩
theorem day_j {X : Int} {R j : Nat} (hR : X = R) (j2 : X < yS (j + 1)) : R / 366 ≤ j := by
  rcases Nat.lt_or_ge j (R / 366) with q | q
  · have a1 := yS_m (i := j + 1) (j := R / 366) q
    have a2 := (yS_b (R / 366)).2
    omega
  · exact q
theorem day_n {j q : Nat} (h : j ≤ 800) : j - q < 800 - q + 1 := by omega
theorem day_p {x : Int64} {X : Int} {j k r : Nat} {dy : Nat → TR} {j0 : Nat} (hX : X = x.toInt + 135140) (h1 : 0 ≤ X) (h2 : X ≤ 292559) (hj : j ≤ 800) (j1 : yS j ≤ X) (j2 : X < yS (j + 1)) (hr : X - yS j = r) (hk : k < 12) (k1 : dms (dbt (nI (1600 + j))) k ≤ r) (k2 : r < dms (dbt (nI (1600 + j))) (k + 1)) : v_X0_putDayNumber dy j0 x.toInt32 = va_up dy j0 (nI (1600 + j), nI (k + 1), nI (r - dms (dbt (nI (1600 + j))) k + 1)) := by
  unfold v_X0_putDayNumber
  have e0 := day_r hX h1 h2
  obtain ⟨R, hR, hR2, eR⟩ := day_R e0 h1 h2
  have hij := day_j hR j2
  have e16 : 1600 + (x.toInt32 + 135140) / 366 = nI (1600 + R / 366) :=
    (congrArg (fun z => 1600 + z / 366) eR).trans ((congrArg (fun z => 1600 + z) (pk_div (a := R) (d := 366) hR2 (by decide) (by decide))).trans (nI_add 1600 (R / 366)))
  have ef := fu_yr (R := R / 366) (Nat.le_trans hij hj)
  have key := p15_at (dy := dy) (j0 := j0) (a := x.toInt32) (X := X) hj j1 j2 hr hk k1 k2 e0 (800 - R / 366 + 1) (R / 366) hij (day_n hj)
  have h1 : ∀ q : Int32, q = nI (1600 + R / 366) → wX0_putDayNumber_15 dy j0 x.toInt32 (((2400 : Int32).toInt - q.toInt).toNat + 1) q = va_up dy j0 (nI (1600 + j), nI (k + 1), nI (r - dms (dbt (nI (1600 + j))) k + 1)) := by
    intro q hq
    subst hq
    have h2 : ∀ F : Nat, F = 800 - R / 366 + 1 → wX0_putDayNumber_15 dy j0 x.toInt32 F (nI (1600 + R / 366)) = va_up dy j0 (nI (1600 + j), nI (k + 1), nI (r - dms (dbt (nI (1600 + j))) k + 1)) := by
      intro F hF
      subst hF
      exact key
    exact h2 _ ef
  exact h1 _ e16
end
section
/-- the day of a number that is in the calendar -/
theorem day_of {x : Int64} (h1 : -135140 ≤ x.toInt) (h2 : x.toInt ≤ 157419) : ∃ t : TR, okv t ∧ v_X4_dateOf x = some t ∧ (∀ (dy : Nat → TR) (j0 : Nat), v_X0_putDayNumber dy j0 x.toInt32 = va_up dy j0 t) ∧ (v_X4_number t).toInt = x.toInt := by
  obtain ⟨X, hX⟩ : ∃ X : Int, X = x.toInt + 135140 := ⟨_, rfl⟩
  have s801 := yS_801
  obtain ⟨j, hj, j1, j2⟩ := yr_at 801 X (by omega) (by omega)
  obtain ⟨r, hr⟩ : ∃ r : Nat, X - yS j = r := ⟨(X - yS j).toNat, by omega⟩
  have hy := yl_dbt j
  have es : yS (j + 1) = yS j + yl j := rfl
  obtain ⟨k, hk, k1, k2⟩ := mo_at (dbt (nI (1600 + j))) 12 r (by rw [dms_12]; omega)
  have ek : dms (dbt (nI (1600 + j))) (k + 1) = dms (dbt (nI (1600 + j))) k + ylen (dbt (nI (1600 + j))) k := rfl
  have bk := dms_l (dbt (nI (1600 + j))) k hk
  have ed : (nI (r - dms (dbt (nI (1600 + j))) k + 1)).toInt = ((r - dms (dbt (nI (1600 + j))) k + 1 : Nat) : Int) := nI_toInt (by omega)
  have hv : okv (nI (1600 + j), nI (k + 1), nI (r - dms (dbt (nI (1600 + j))) k + 1)) := okv_mk (by omega) hk (by omega) (by omega)
  refine ⟨_, hv, day_f hX (by omega) (by omega) (by omega) j1 j2 hr hk k1 k2, fun dy j0 => day_p hX (by omega) (by omega) (by omega) j1 j2 hr hk k1 k2, ?_⟩
  rw [num_Z (by omega) hk (by omega) (by omega), ed]
  omega
end
section
theorem day_no {x : Int64} (h : x.toInt < -135140 ∨ 157419 < x.toInt) (hs : -9000000000000000000 ≤ x.toInt ∧ x.toInt ≤ 9000000000000000000) : v_X4_dateOf x = none := by
  unfold v_X4_dateOf
  rw [dT_1970, dT_2401]
  have e1 : (135140 : Int32).toInt64.toInt = 135140 := by decide +kernel
  have e2 := add_l (x := x) (y := (135140 : Int32).toInt64) (by omega) (by omega)
  have e3 : ((292560 : Int32) - 1).toInt64.toInt = 292559 := by decide +kernel
  have e0 : (0 : Int64).toInt = 0 := rfl
  have hin : v_X4_isIn (x + (135140 : Int32).toInt64) 0 ((292560 : Int32) - 1).toInt64 = 0 := by
    refine Classical.byContradiction fun q => ?_
    have := in_iff.mp q
    rw [Int64.le_iff_toInt_le, Int64.le_iff_toInt_le] at this
    omega
  rw [if_pos hin]
end
section
/-! by months on, moved, between: the class's side as the reference's -/
theorem mul12r {x : Int32} (h0 : -100000 ≤ x.toInt) (h1 : x.toInt ≤ 100000) : (x * 12).toInt = 12 * x.toInt := by
  have e12 : (12 : Int32).toInt = 12 := rfl
  rw [Int32.toInt_mul, e12, Int.bmod_eq_of_le (by omega) (by omega)]
  omega
theorem mp_Z {t : TR} (h : okd t) : (t.1 * 12 + t.2.1 - 1).toInt = 12 * t.1.toInt + t.2.1.toInt - 1 := by
  obtain ⟨g1, g2, g3, g4, g5, g6⟩ := h
  have e1 : (1 : Int32).toInt = 1 := rfl
  have m1 := mul12r (x := t.1) (by omega) (by omega)
  have m2 := add_i (x := t.1 * 12) (y := t.2.1) (by omega) (by omega)
  have m3 := sub_i (x := t.1 * 12 + t.2.1) (y := 1) (by omega) (by omega)
  omega
theorem mP_Z {t : TR} (h : okd t) {b : Int64} (b1 : -100000000000 ≤ b.toInt) (b2 : b.toInt ≤ 100000000000) : (12 * t.1.toInt64 + t.2.1.toInt64 - 1 + b).toInt = 12 * t.1.toInt + t.2.1.toInt - 1 + b.toInt := by
  obtain ⟨g1, g2, g3, g4, g5, g6⟩ := h
  have e1 : (1 : Int64).toInt = 1 := rfl
  have ea : t.1.toInt64.toInt = t.1.toInt := Int32.toInt_toInt64 _
  have eb : t.2.1.toInt64.toInt = t.2.1.toInt := Int32.toInt_toInt64 _
  have m1 := mul12 (x := t.1.toInt64) (by omega) (by omega)
  have m2 := add_l (x := 12 * t.1.toInt64) (y := t.2.1.toInt64) (by omega) (by omega)
  have m3 := sub_l (x := 12 * t.1.toInt64 + t.2.1.toInt64) (y := 1) (by omega) (by omega)
  have m4 := add_l (x := 12 * t.1.toInt64 + t.2.1.toInt64 - 1) (y := b) (by omega) (by omega)
  omega
theorem mo_some {dy : Nat → TR} {j : Nat} {t t1 : TR} {b : Int64} (hj : dy j = t) (h : okd t) (b1 : -100000000000 ≤ b.toInt) (b2 : b.toInt ≤ 100000000000) (hs : v_X4_onByMonths t b = some t1) : okv t1 ∧ v_X0_dayNumberMonthsOn dy j b.toInt32 = v_X4_number t1 := by
  have hP := mP_Z h b1 b2
  have hM := mp_Z h
  obtain ⟨g1, g2, g3, g4, g5, g6⟩ := id h
  unfold v_X4_onByMonths at hs
  generalize 12 * t.1.toInt64 + t.2.1.toInt64 - 1 + b = P at hP hs
  by_cases c : v_X4_isIn P 19200 28811 = 0
  · rw [if_pos c] at hs; exact (nomatch hs)
  · rw [if_neg c] at hs
    have hs := Option.some.inj hs
    have c2 := in_iff.mp c
    rw [Int64.le_iff_toInt_le, Int64.le_iff_toInt_le] at c2
    have z1 : (19200 : Int64).toInt = 19200 := rfl
    have z2 : (28811 : Int64).toInt = 28811 := rfl
    obtain ⟨n, hn⟩ : ∃ n : Nat, P.toInt = n := ⟨P.toInt.toNat, by omega⟩
    have eP : P = lN n := Int64.toInt_inj.mp (by rw [pk_lT (by omega)]; exact hn)
    have ed : P / 12 = lN (n / 12) := by rw [eP]; exact pk_lDiv (b := 12) (by omega) (by omega) (by omega)
    have er : P - P / 12 * 12 = lN (n % 12) := by rw [eP]; exact pk_lRem (b := 12) (by omega) (by omega) (by omega)
    rw [ed] at er
    rw [ed, er, lN_i, lN_i, nI_1] at hs
    have eb : b.toInt32.toInt = b.toInt := by rw [Int64.toInt_toInt32, Int.bmod_eq_of_le (by omega) (by omega)]
    have ep : t.1 * 12 + t.2.1 - 1 + b.toInt32 = nI n := Int32.toInt_inj.mp (by
      rw [add_i (by omega) (by omega), nI_toInt (by omega)]
      omega)
    have fd : nI n / 12 = nI (n / 12) := pk_div (d := 12) (by omega) (by omega) (by omega)
    have fr : nI n - nI n / 12 * 12 = nI (n % 12) := pk_rem (d := 12) (by omega) (by omega) (by omega)
    rw [fd] at fr
    obtain ⟨y, hy⟩ : ∃ y : Nat, n / 12 = 1600 + y := ⟨n / 12 - 1600, by omega⟩
    have hk : n % 12 < 12 := Nat.mod_lt _ (by decide)
    have bl := dms_l (dbt (nI (1600 + y))) (n % 12) hk
    have el := len_Z (nI (1600 + y)) hk
    rw [hy] at hs fd fr
    have ho : okv t1 := by
      rw [← hs]
      refine okv_mk (by omega) hk ?_ ?_
      · by_cases q : v_X4_length (nI (1600 + y)) (nI (n % 12 + 1)) < t.2.2
        · rw [if_pos q]; omega
        · rw [if_neg q]; exact g5
      · by_cases q : v_X4_length (nI (1600 + y)) (nI (n % 12 + 1)) < t.2.2
        · rw [if_pos q]; omega
        · rw [if_neg q]
          rw [Int32.lt_iff_toInt_lt] at q
          omega
    refine ⟨ho, ?_⟩
    unfold v_X0_dayNumberMonthsOn v_X0_monthPlace
    rw [hj, ep, fd, fr, nI_1]
    unfold v_X2_dayKept
    rw [dom_len _ _ hk]
    have hm := num_t ho.1
    rw [← hs] at hm ⊢
    exact hm
theorem mo_none {t : TR} {b : Int64} (h : okd t) (b1 : -100000000000 ≤ b.toInt) (b2 : b.toInt ≤ 100000000000) : v_X4_onByMonths t b = none ↔ ¬ (19200 ≤ 12 * t.1.toInt + t.2.1.toInt - 1 + b.toInt ∧ 12 * t.1.toInt + t.2.1.toInt - 1 + b.toInt ≤ 28811) := by
  constructor
  · intro hs q
    exact onb_ne h q.1 q.2 hs
  · intro q
    have hP := mP_Z h b1 b2
    unfold v_X4_onByMonths
    generalize 12 * t.1.toInt64 + t.2.1.toInt64 - 1 + b = P at hP
    by_cases c : v_X4_isIn P 19200 28811 = 0
    · rw [if_pos c]
    · refine absurd ?_ q
      have c2 := in_iff.mp c
      rw [Int64.le_iff_toInt_le, Int64.le_iff_toInt_le] at c2
      have z1 : (19200 : Int64).toInt = 19200 := rfl
      have z2 : (28811 : Int64).toInt = 28811 := rfl
      omega
theorem om_s {α : Type} (t : TR) (a : α) (k : TR → α) : om (some t) a k = k t := rfl
/-- moved by so many months, then so many days -/
def mv2 (t : TR) (b2 b3 : Int64) : Option TR := om (v_X4_onByMonths t b2) none (fun t1 => om (v_X4_dateOf ((v_X4_number t1).toInt64 + b3)) none (fun t2 => some t2))
theorem num_bd {t : TR} (h : okv t) : -135140 ≤ (v_X4_number t).toInt ∧ (v_X4_number t).toInt ≤ 157419 := by
  obtain ⟨j, k, hj, hk, e1, e2, d1, d2⟩ := okv_of h
  obtain ⟨t1, t2, t3⟩ := t
  have e1 : t1 = nI (1600 + j) := e1
  have e2 : t2 = nI (k + 1) := e2
  have d1 : 1 ≤ t3.toInt := d1
  have d2 : t3.toInt ≤ ylen (dbt (nI (1600 + j))) k := d2
  subst e1 e2
  have b := dms_l (dbt (nI (1600 + j))) k hk
  have n := num_Z (d := t3) hj hk d1 (by omega)
  have s := yl_dbt j
  have q : yS (j + 1) = yS j + yl j := rfl
  have m : dms (dbt (nI (1600 + j))) (k + 1) = dms (dbt (nI (1600 + j))) k + ylen (dbt (nI (1600 + j))) k := rfl
  have r := dms_m (b := dbt (nI (1600 + j))) (i := k + 1) (k := 12) (by omega)
  rw [dms_12] at r
  have s8 := yS_801
  have a1 := yS_m (i := j + 1) (j := 801) (by omega)
  have a2 := (yS_b j).1
  omega
theorem mv2_okv {t u : TR} {b2 b3 : Int64} (h : mv2 t b2 b3 = some u) (h1 : okd t) (m1 : -100000000000 ≤ b2.toInt) (m2 : b2.toInt ≤ 100000000000) (n1 : -100000000000 ≤ b3.toInt) (n2 : b3.toInt ≤ 100000000000) : okv u := by
  unfold mv2 at h
  cases e : v_X4_onByMonths t b2 with
  | none => rw [e] at h; exact (nomatch h)
  | some t1 =>
    rw [e, om_some rfl, om_id] at h
    have ho := (mo_some (dy := fun _ => t) (j := 0) rfl h1 m1 m2 e).1
    have hb := num_bd ho
    have e6 : (v_X4_number t1).toInt64.toInt = (v_X4_number t1).toInt := Int32.toInt_toInt64 _
    have ea := add_l (x := (v_X4_number t1).toInt64) (y := b3) (by omega) (by omega)
    generalize (v_X4_number t1).toInt64 + b3 = x at h ea
    by_cases c : -135140 ≤ x.toInt ∧ x.toInt ≤ 157419
    · obtain ⟨v, hv, hd, -, -⟩ := day_of c.1 c.2
      rw [hd] at h
      rw [← Option.some.inj h]
      exact hv
    · rw [day_no (by omega) (by omega)] at h
      exact (nomatch h)
theorem pm_eq {dy : Nat → TR} {j0 j1 : Nat} {b2 b3 : Int64} (h1 : okd (dy j1)) (m1 : -100000000000 ≤ b2.toInt) (m2 : b2.toInt ≤ 100000000000) (n1 : -100000000000 ≤ b3.toInt) (n2 : b3.toInt ≤ 100000000000) : v_X0_putMoved dy j0 j1 b2 b3 = om (mv2 (dy j1) b2 b3) (0, dy) (fun t => (1, va_up dy j0 t)) := by
  have hM := mp_Z h1
  have hn := mo_none h1 m1 m2
  obtain ⟨g1, g2, g3, g4, g5, g6⟩ := id h1
  unfold v_X0_putMoved mv2
  have eM : ((v_X0_monthPlace dy j1).toInt64 + b2).toInt = 12 * (dy j1).1.toInt + (dy j1).2.1.toInt - 1 + b2.toInt := by
    have e0 : (v_X0_monthPlace dy j1).toInt64.toInt = 12 * (dy j1).1.toInt + (dy j1).2.1.toInt - 1 := by rw [Int32.toInt_toInt64]; exact hM
    rw [add_l (by omega) (by omega), e0]
  have z1 : (19200 : Int64).toInt = 19200 := rfl
  have z2 : (28812 : Int64).toInt = 28812 := rfl
  have c1 := lg_cmp_lt ((v_X0_monthPlace dy j1).toInt64 + b2) 19200
  have c2 := lg_cmp_lt ((v_X0_monthPlace dy j1).toInt64 + b2) 28812
  rw [Int64.lt_iff_toInt_lt, eM] at c1 c2
  by_cases q1 : lg_cmp ((v_X0_monthPlace dy j1).toInt64 + b2) 19200 < 0
  · rw [if_pos q1, hn.mpr (by have := c1.mp q1; omega)]
    rfl
  · rw [if_neg q1]
    by_cases q2 : lg_cmp ((v_X0_monthPlace dy j1).toInt64 + b2) 28812 < 0
    · rw [if_pos q2]
      cases e : v_X4_onByMonths (dy j1) b2 with
      | none =>
        have h2 := hn.mp e
        have h3 := c2.mp q2
        have h4 : ¬ _ := fun z => q1 (c1.mpr z)
        exact absurd ⟨by omega, by omega⟩ h2
      | some t1 =>
        obtain ⟨ho, he⟩ := mo_some (j := j1) rfl h1 m1 m2 e
        have hb := num_bd ho
        rw [he]
        have e6 : (v_X4_number t1).toInt64.toInt = (v_X4_number t1).toInt := Int32.toInt_toInt64 _
        have ea := add_l (x := (v_X4_number t1).toInt64) (y := b3) (by omega) (by omega)
        rw [om_s, om_id]
        generalize (v_X4_number t1).toInt64 + b3 = x at ea ⊢
        have y1 : (-135140 : Int64).toInt = -135140 := by decide
        have y2 : (157419 : Int64).toInt = 157419 := rfl
        have k1 := lg_cmp_lt x (-135140)
        have k2 := lg_cmp_le x 157419
        rw [Int64.lt_iff_toInt_lt] at k1
        rw [Int64.le_iff_toInt_le] at k2
        by_cases p1 : lg_cmp x (-135140) < 0
        · have := k1.mp p1
          rw [if_pos p1, day_no (by omega) (by omega)]
          rfl
        · rw [if_neg p1]
          have w1 : ¬ _ := fun z => p1 (k1.mpr z)
          by_cases p2 : lg_cmp x 157419 ≤ 0
          · have w2 := k2.mp p2
            obtain ⟨v, hv, hd, hp, -⟩ := day_of (x := x) (by omega) (by omega)
            rw [if_pos p2, hd, hp]
            rfl
          · have w2 : ¬ _ := fun z => p2 (k2.mpr z)
            rw [if_neg p2, day_no (by omega) (by omega)]
            rfl
    · have h4 : ¬ _ := fun z => q2 (c2.mpr z)
      rw [if_neg q2, hn.mpr (by omega)]
      rfl
theorem tot_bd (t : TR) : -100000000000 ≤ (v_X4_total t).toInt ∧ (v_X4_total t).toInt ≤ 100000000000 ∧ (v_X4_total t).toInt = 12 * t.1.toInt + t.2.1.toInt := by
  unfold v_X4_total
  have a1 := Int32.toInt_lt t.1
  have a2 := Int32.le_toInt t.1
  have a3 := Int32.toInt_lt t.2.1
  have a4 := Int32.le_toInt t.2.1
  have ea : t.1.toInt64.toInt = t.1.toInt := Int32.toInt_toInt64 _
  have eb : t.2.1.toInt64.toInt = t.2.1.toInt := Int32.toInt_toInt64 _
  have e12 : (12 : Int64).toInt = 12 := rfl
  have m1 : (12 * t.1.toInt64).toInt = 12 * t.1.toInt := by
    rw [Int64.toInt_mul, e12, ea, Int.bmod_eq_of_le (by omega) (by omega)]
  have m2 := add_l (x := 12 * t.1.toInt64) (y := t.2.1.toInt64) (by omega) (by omega)
  omega
theorem all_tot (sp : Nat → TR) (i : Nat) : v_X1_allMonths sp i = v_X4_total (sp i) := by
  unfold v_X1_allMonths v_X4_total
  rw [Int64.mul_comm]
theorem neg_bd {x : Int64} (h1 : -100000000000 ≤ x.toInt) (h2 : x.toInt ≤ 100000000000) : -100000000000 ≤ (-1 * x).toInt ∧ (-1 * x).toInt ≤ 100000000000 := by
  have e : (-1 : Int64).toInt = -1 := by decide
  rw [Int64.toInt_mul, e, Int.bmod_eq_of_le (by omega) (by omega)]
  omega
theorem d64_bd (x : Int32) : -100000000000 ≤ x.toInt64.toInt ∧ x.toInt64.toInt ≤ 100000000000 := by
  have a1 := Int32.toInt_lt x
  have a2 := Int32.le_toInt x
  rw [Int32.toInt_toInt64]
  omega
/-- the sign of a move -/
abbrev sgn (a : Int32) : Int32 := if a = 0 then 1 else -1
theorem onBy_1 (t s : TR) : v_X4_onBy t s 1 = mv2 t (v_X4_total s) s.2.2.toInt64 := by
  unfold v_X4_onBy mv2
  have e : (1 : Int32).toInt64 = 1 := by decide
  rw [e, Int64.one_mul, Int64.one_mul]
theorem onBy_m (t s : TR) : v_X4_onBy t s (-1) = mv2 t (-1 * v_X4_total s) (-1 * s.2.2.toInt64) := by
  unfold v_X4_onBy mv2
  have e : (-1 : Int32).toInt64 = -1 := by decide
  rw [e]
theorem onBy_okv {t s u : TR} {a : Int32} (h : v_X4_onBy t s a = some u) (ht : okd t) (ha : a = 1 ∨ a = -1) : okv u := by
  have b1 := tot_bd s
  have b2 := d64_bd s.2.2
  rcases ha with rfl | rfl
  · rw [onBy_1] at h
    exact mv2_okv h ht b1.1 b1.2.1 b2.1 b2.2
  · rw [onBy_m] at h
    exact mv2_okv h ht (neg_bd b1.1 b1.2.1).1 (neg_bd b1.1 b1.2.1).2 (neg_bd b2.1 b2.2).1 (neg_bd b2.1 b2.2).2
theorem rch_eq {sp dy : Nat → TR} {j i : Nat} {a : Int32} (h : okd (dy j)) : v_X2_reach sp dy j i a = om (v_X4_onBy (dy j) (sp i) (sgn a)) (0, dy) (fun t => (1, va_up dy 4 t)) := by
  have b1 := tot_bd (sp i)
  have b2 := d64_bd (sp i).2.2
  unfold v_X2_reach sgn
  by_cases c : a = 0
  · rw [if_pos c, if_pos c, all_tot, Int64.one_mul, Int64.one_mul, onBy_1, ← pm_eq h b1.1 b1.2.1 b2.1 b2.2]
  · rw [if_neg c, if_neg c, all_tot, onBy_m, ← pm_eq h (neg_bd b1.1 b1.2.1).1 (neg_bd b1.1 b1.2.1).2 (neg_bd b2.1 b2.2).1 (neg_bd b2.1 b2.2).2]
end
section
/-! between, order, acts: the class's side as the reference's -/
theorem pe {α β : Type} (p : α × β) : (p.1, p.2) = p := rfl
theorem put_eq (sp : Nat → TR) (i : Nat) (b1 b2 b3 : Int64) : v_X1_put sp i b1 b2 b3 = om (v_X4_span b1 b2 b3) (0, sp) (fun t => (1, va_up sp i t)) := by
  have e : ∀ b : Int64, v_X2_canBeTold b = v_X4_isIn b (-2147483648) 2147483647 := fun _ => rfl
  unfold v_X1_put v_X4_span
  rw [e, e, e]
  by_cases h1 : v_X4_isIn b1 (-2147483648) 2147483647 = 0
  · rw [if_pos h1, if_pos h1]; rfl
  · rw [if_neg h1, if_neg h1]
    by_cases h2 : v_X4_isIn b2 (-2147483648) 2147483647 = 0
    · rw [if_pos h2, if_pos h2]; rfl
    · rw [if_neg h2, if_neg h2]
      by_cases h3 : v_X4_isIn b3 (-2147483648) 2147483647 = 0
      · rw [if_pos h3, if_pos h3]; rfl
      · rw [if_neg h3, if_neg h3]; rfl
theorem span_32 (a b c : Int32) : v_X4_span a.toInt64 b.toInt64 c.toInt64 = some (a, b, c) :=
  span_some.mpr ⟨⟨inr_of _, inr_of _, inr_of _⟩, by rw [i32_64, i32_64, i32_64]⟩
theorem psum_eq (sp : Nat → TR) (i0 i1 i2 : Nat) : v_X1_putSum sp i0 i1 i2 = om (v_X4_sum (sp i1) 1 (sp i2)) (0, sp) (fun t => (1, va_up sp i0 t)) := by
  unfold v_X1_putSum v_X4_sum
  rw [pe, put_eq, om_id, Int64.one_mul, Int64.one_mul, Int64.one_mul]
theorem sub_mi (x y : Int64) : x - y = x + -1 * y := by grind
theorem pdif_eq (sp : Nat → TR) (i0 i1 i2 : Nat) : v_X1_putDifference sp i0 i1 i2 = om (v_X4_sum (sp i1) (-1) (sp i2)) (0, sp) (fun t => (1, va_up sp i0 t)) := by
  unfold v_X1_putDifference v_X4_sum
  rw [pe, put_eq, om_id, sub_mi, sub_mi, sub_mi]
theorem ptim_eq (sp : Nat → TR) (i0 i1 : Nat) (n : Int64) : v_X1_putTimes sp i0 i1 n = om (v_X4_sum v_X4_nothing n (sp i1)) (0, sp) (fun t => (1, va_up sp i0 t)) := by
  unfold v_X1_putTimes v_X4_sum v_X4_nothing
  have z : (0 : Int32).toInt64 = 0 := rfl
  rw [pe, put_eq, om_id]
  show _ = om (v_X4_span ((0 : Int32).toInt64 + _) ((0 : Int32).toInt64 + _) ((0 : Int32).toInt64 + _)) _ _
  rw [z, Int64.zero_add, Int64.zero_add, Int64.zero_add]
theorem popp_eq (sp : Nat → TR) (i0 i1 : Nat) : v_X1_putOpposite sp i0 i1 = om (v_X4_opposed (sp i1)) (0, sp) (fun t => (1, va_up sp i0 t)) := by
  unfold v_X1_putOpposite v_X4_opposed
  rw [pe, ptim_eq, om_id]
theorem ptid_eq (sp : Nat → TR) (i0 i1 : Nat) : v_X1_putTidy sp i0 i1 = om (v_X4_tidied (sp i1)) (0, sp) (fun t => (1, va_up sp i0 t)) := by
  unfold v_X1_putTidy v_X4_tidied
  rw [pe, put_eq, om_id, all_tot]
theorem ord_eq {dy : Nat → TR} {i j : Nat} (hi : okd (dy i)) (hj : okd (dy j)) : v_X0_orderTo dy i j = if v_X4_number (dy j) ≤ v_X4_number (dy i) then (if v_X4_number (dy i) ≤ v_X4_number (dy j) then 0 else 1) else (-1) := by
  unfold v_X0_orderTo v_X0_dayNumber
  rw [num_t hi, num_t hj]
theorem ord_0 {dy : Nat → TR} {i j : Nat} (hi : okd (dy i)) (hj : okd (dy j)) : v_X0_orderTo dy i j = 0 ↔ v_X4_number (dy i) = v_X4_number (dy j) := by
  rw [ord_eq hi hj]
  by_cases h1 : v_X4_number (dy j) ≤ v_X4_number (dy i)
  · rw [if_pos h1]
    by_cases h2 : v_X4_number (dy i) ≤ v_X4_number (dy j)
    · rw [if_pos h2]
      rw [Int32.le_iff_toInt_le] at h1 h2
      exact ⟨fun _ => Int32.toInt_inj.mp (by omega), fun _ => rfl⟩
    · rw [if_neg h2]
      exact ⟨fun h => absurd h (by decide), fun h => absurd (by rw [h]; exact Int32.le_refl _) h2⟩
  · rw [if_neg h1]
    exact ⟨fun h => absurd h (by decide), fun h => absurd (by rw [h]; exact Int32.le_refl _) h1⟩
theorem ord_n {dy : Nat → TR} {i j : Nat} (hi : okd (dy i)) (hj : okd (dy j)) : v_X0_orderTo dy i j < 0 ↔ ¬ v_X4_number (dy j) ≤ v_X4_number (dy i) := by
  rw [ord_eq hi hj]
  by_cases h1 : v_X4_number (dy j) ≤ v_X4_number (dy i)
  · rw [if_pos h1]
    by_cases h2 : v_X4_number (dy i) ≤ v_X4_number (dy j)
    · rw [if_pos h2]; exact ⟨fun h => absurd h (by decide), fun h => absurd h1 h⟩
    · rw [if_neg h2]; exact ⟨fun h => absurd h (by decide), fun h => absurd h1 h⟩
  · rw [if_neg h1]
    exact ⟨fun _ => h1, fun _ => by decide⟩
theorem mpl_w (a1 a2 b1 b2 : Int32) : (b1 * 12 + b2 - 1) - (a1 * 12 + a2 - 1) = 12 * (b1 - a1) + b2 - a2 := by grind
theorem btw_k {sp dy : Nat → TR} {i0 j1 j2 : Nat} {w : Int32} (h1 : okd (dy j1)) (h2 : okd (dy j2)) (hn : v_X4_onByMonths (dy j1) w.toInt64 ≠ none) :
    v_X1_put sp i0 (w / 12).toInt64 (w - w / 12 * 12).toInt64 (v_X0_dayNumber dy j2 - v_X0_dayNumberMonthsOn dy j1 w).toInt64 = om (om (v_X4_onByMonths (dy j1) w.toInt64) none (fun t => some (w / 12, w - w / 12 * 12, v_X4_number (dy j2) - v_X4_number t))) (0, sp) (fun t => (1, va_up sp i0 t)) := by
  cases e : v_X4_onByMonths (dy j1) w.toInt64 with
  | none => exact absurd e hn
  | some t1 =>
    have b := d64_bd w
    have q := (mo_some (j := j1) rfl h1 b.1 b.2 e).2
    rw [i32_64] at q
    have e2 : v_X0_dayNumber dy j2 = v_X4_number (dy j2) := num_t h2
    rw [put_eq, q, e2, span_32]
    rfl
theorem btw_eq {sp dy : Nat → TR} {i0 j1 j2 : Nat} (h1 : okd (dy j1)) (h2 : okd (dy j2)) : v_X1_putBetween sp dy i0 j1 j2 = om (v_X4_apart (dy j1) (dy j2)) (0, sp) (fun t => (1, va_up sp i0 t)) := by
  have eW : v_X0_monthPlace dy j2 - v_X0_monthPlace dy j1 = 12 * ((dy j2).1 - (dy j1).1) + (dy j2).2.1 - (dy j1).2.1 := mpl_w _ _ _ _
  have a0 := ap_0 h1 h2
  have ap := ap_p h1 h2
  have am := ap_m h1 h2
  have o := ord_n h2 h1
  unfold v_X1_putBetween v_X4_apart
  rw [eW]
  generalize 12 * ((dy j2).1 - (dy j1).1) + (dy j2).2.1 - (dy j1).2.1 = w at a0 ap am ⊢
  have z1 : w + 0 = w := Int32.add_zero w
  have z2 : w - 0 = w := Int32.sub_zero w
  have z3 : w - 1 = w + -1 := by grind
  rw [z1, z2, z3]
  by_cases c : v_X4_number (dy j1) ≤ v_X4_number (dy j2)
  · rw [if_neg (fun q => o.mp q c), if_pos c]
    by_cases d : (dy j1).2.2 ≤ (dy j2).2.2
    · rw [if_pos d, if_pos d]
      rw [pe]
      exact btw_k h1 h2 a0
    · rw [if_neg d, if_neg d]
      rw [pe]
      exact btw_k h1 h2 (am c d)
  · rw [if_pos (o.mpr c), if_neg c]
    by_cases e : (dy j1).2.2 ≤ 28
    · rw [if_pos e, if_pos e]
      by_cases d : (dy j2).2.2 ≤ (dy j1).2.2
      · rw [if_pos d, if_pos d]
        rw [pe]
        exact btw_k h1 h2 a0
      · rw [if_neg d, if_neg d]
        by_cases f : 0 ≤ w
        · rw [if_pos f, if_pos f]
          rw [pe]
          exact btw_k h1 h2 a0
        · rw [if_neg f, if_neg f]
          rw [pe]
          exact btw_k h1 h2 (ap f)
    · rw [if_neg e, if_neg e]
      rfl
theorem lds_eq {sp dy : Nat → TR} {j1 i2 j3 : Nat} (h1 : okd (dy j1)) (h3 : okd (dy j3)) (hj : j3 ≠ 4) : v_X2_leads sp dy j1 i2 j3 = om (v_X4_onBy (dy j1) (sp i2) 1) (0, dy) (fun t => (if v_X4_number t = v_X4_number (dy j3) then 1 else 0, va_up dy 4 t)) := by
  have b1 := tot_bd (sp i2)
  have b2 := d64_bd (sp i2).2.2
  unfold v_X2_leads
  rw [all_tot, pm_eq h1 b1.1 b1.2.1 b2.1 b2.2, ← onBy_1]
  cases e : v_X4_onBy (dy j1) (sp i2) 1 with
  | none => rfl
  | some t =>
    have ho := onBy_okv e h1 (Or.inl rfl)
    show (if (1 : Int32) = 0 then _ else if v_X0_orderTo (va_up dy 4 t) 4 j3 = 0 then (1, va_up dy 4 t) else (0, va_up dy 4 t)) = _
    rw [if_neg (by decide)]
    have e4 : va_up dy 4 t 4 = t := va_up_self _ _ _
    have e3 : va_up dy 4 t j3 = dy j3 := va_up_ne _ _ hj
    have o := ord_0 (dy := va_up dy 4 t) (i := 4) (j := j3) (by rw [e4]; exact ho.1) (by rw [e3]; exact h3)
    rw [e4, e3] at o
    by_cases c : v_X4_number t = v_X4_number (dy j3)
    · rw [if_pos (o.mpr c)]
      show _ = (if v_X4_number t = v_X4_number (dy j3) then (1 : Int32) else 0, va_up dy 4 t)
      rw [if_pos c]
    · rw [if_neg (fun q => c (o.mp q))]
      show _ = (if v_X4_number t = v_X4_number (dy j3) then (1 : Int32) else 0, va_up dy 4 t)
      rw [if_neg c]
/-! acts -/
/-- as far as the first four -/
def E4 (a b : Nat → TR) : Prop := ∀ j, j < 4 → a j = b j
theorem E4_up {a b : Nat → TR} {i : Nat} {t : TR} (h : E4 a b) : E4 (va_up a i t) (va_up b i t) := by
  intro j hj
  by_cases e : j = i
  · rw [e, va_up_self, va_up_self]
  · rw [va_up_ne _ _ e, va_up_ne _ _ e]; exact h j hj
theorem E4_far {a b : Nat → TR} {i : Nat} {t : TR} (h : E4 a b) (hi : 4 ≤ i) : E4 (va_up a i t) b := by
  intro j hj
  rw [va_up_ne _ _ (by omega)]; exact h j hj
theorem psp_eq {sp : Nat → TR} {i k : Nat} (h : k ≠ i) : v_X1_putSpan sp i k = va_up sp i (sp k) := by
  unfold v_X1_putSpan
  rw [va_up_ne _ _ h, va_up_ne _ _ h]
theorem psp_self {sp : Nat → TR} {i : Nat} : v_X1_putSpan sp i i = va_up sp i (sp i) := by
  unfold v_X1_putSpan
  rw [va_up_self, va_up_self]
theorem psp_all {sp : Nat → TR} {i k : Nat} : v_X1_putSpan sp i k = va_up sp i (sp k) := by
  by_cases h : k = i
  · rw [h]; exact psp_self
  · exact psp_eq h
theorem same_iff {sp : Nat → TR} {i k : Nat} : v_X1_isSameAs sp i k = 0 ↔ sp i ≠ sp k := by
  unfold v_X1_isSameAs
  generalize sp i = a
  generalize sp k = b
  obtain ⟨a1, a2, a3⟩ := a
  obtain ⟨b1, b2, b3⟩ := b
  show (if a1 = b1 then (if a2 = b2 then (if a3 = b3 then (1 : Int32) else 0) else 0) else 0) = 0 ↔ _
  by_cases h1 : a1 = b1
  · rw [if_pos h1]
    by_cases h2 : a2 = b2
    · rw [if_pos h2]
      by_cases h3 : a3 = b3
      · rw [if_pos h3]; subst h1 h2 h3; exact ⟨fun h => absurd h (by decide), fun h => absurd rfl h⟩
      · rw [if_neg h3]; exact ⟨fun _ q => h3 (by cases q; rfl), fun _ => rfl⟩
    · rw [if_neg h2]; exact ⟨fun _ q => h2 (by cases q; rfl), fun _ => rfl⟩
  · rw [if_neg h1]; exact ⟨fun _ q => h1 (by cases q; rfl), fun _ => rfl⟩
theorem same_eq (a b : TR) : v_X4_isSame a b = if a = b then 1 else 0 := by
  unfold v_X4_isSame
  obtain ⟨a1, a2, a3⟩ := a
  obtain ⟨b1, b2, b3⟩ := b
  show (if a1 = b1 then (if a2 = b2 then (if a3 = b3 then (1 : Int32) else 0) else 0) else 0) = _
  by_cases h1 : a1 = b1
  · rw [if_pos h1]
    by_cases h2 : a2 = b2
    · rw [if_pos h2]
      by_cases h3 : a3 = b3
      · rw [if_pos h3]; subst h1 h2 h3; rw [if_pos rfl]
      · rw [if_neg h3, if_neg (fun q => h3 (by cases q; rfl))]
    · rw [if_neg h2, if_neg (fun q => h2 (by cases q; rfl))]
  · rw [if_neg h1, if_neg (fun q => h1 (by cases q; rfl))]
/-- a card's act, of the class: what was reckoned is in v -/
def cA (sp : Nat → TR) (re : Int32) (i : Nat) (v : Option TR) : Int32 × (Nat → TR) × Int32 := om v (-9, sp, re + 1) (fun t => (if sp i = t then 0 else 1, if sp i = t then va_up sp 12 t else va_up (va_up sp 12 t) i t, re))
/-- of the reference -/
def mA (cr : Nat → TR) (rf : Int32) (i : Nat) (v : Option TR) : Int32 × (Nat → TR) × Int32 := om v (-9, cr, rf + 1) (fun t => (if cr i = t then 0 else 1, va_up cr i t, rf))
theorem act_c {sp : Nat → TR} {re : Int32} {i : Nat} {v : Option TR} (hi : i ≠ 12) : v_X2_actOnCard (om v ((0 : Int32), sp) (fun t => (1, va_up sp 12 t))).2 re i (om v ((0 : Int32), sp) (fun t => (1, va_up sp 12 t))).1 = cA sp re i v := by
  cases v with
  | none => rfl
  | some t =>
    show v_X2_actOnCard (va_up sp 12 t) re i 1 = (if sp i = t then 0 else 1, if sp i = t then va_up sp 12 t else va_up (va_up sp 12 t) i t, re)
    unfold v_X2_actOnCard
    rw [if_neg (by decide)]
    have e1 : va_up sp 12 t i = sp i := va_up_ne _ _ hi
    have e2 : va_up sp 12 t 12 = t := va_up_self _ _ _
    have s := same_iff (sp := va_up sp 12 t) (i := i) (k := 12)
    rw [e1, e2] at s
    by_cases c : sp i = t
    · rw [if_neg (fun q => s.mp q c), if_pos c, if_pos c]
    · rw [if_pos (s.mpr c), if_neg c, if_neg c, psp_all, e2]
theorem get_m {cr : Nat → TR} {a : Int32} {t : TR} : v_X4_get cr a t = (if cr a.toNatClampNeg = t then 0 else 1, va_up cr a.toNatClampNeg t) := by
  unfold v_X4_get
  rw [same_eq]
  by_cases c : cr a.toNatClampNeg = t
  · rw [if_pos c, if_neg (by decide), if_pos c]; rfl
  · rw [if_neg c, if_pos rfl, if_neg c]; rfl
theorem act_rel {sp cr : Nat → TR} {re : Int32} {i : Nat} {v : Option TR} (hi : i < 4) (h : E4 sp cr) : (cA sp re i v).1 = (mA cr re i v).1 ∧ E4 (cA sp re i v).2.1 (mA cr re i v).2.1 ∧ (cA sp re i v).2.2 = (mA cr re i v).2.2 ∧ ∀ k, k < 8 → (cA sp re i v).2.1 (4 + k) = sp (4 + k) := by
  unfold cA mA
  cases v with
  | none => exact ⟨rfl, h, rfl, fun _ _ => rfl⟩
  | some t =>
    rw [om_some rfl, om_some rfl, h i hi]
    refine ⟨rfl, ?_, rfl, fun k hk => ?_⟩
    · by_cases c : cr i = t
      · show E4 (if cr i = t then va_up sp 12 t else va_up (va_up sp 12 t) i t) (va_up cr i t)
        rw [if_pos c]
        intro j hj
        rw [va_up_ne _ _ (by omega)]
        by_cases e : j = i
        · rw [e, va_up_self, h i hi]; exact c
        · rw [va_up_ne _ _ e]; exact h j hj
      · show E4 (if cr i = t then va_up sp 12 t else va_up (va_up sp 12 t) i t) (va_up cr i t)
        rw [if_neg c]
        exact E4_up (E4_far h (by omega))
    · by_cases c : cr i = t
      · show (if cr i = t then va_up sp 12 t else va_up (va_up sp 12 t) i t) (4 + k) = _
        rw [if_pos c, va_up_ne _ _ (by omega)]
      · show (if cr i = t then va_up sp 12 t else va_up (va_up sp 12 t) i t) (4 + k) = _
        rw [if_neg c, va_up_ne _ _ (by omega), va_up_ne _ _ (by omega)]
/-- a date's act -/
def cD (dy : Nat → TR) (re : Int32) (j : Nat) (v : Option TR) : Int32 × (Nat → TR) × Int32 := om v (-9, dy, re + 1) (fun t => (if dy j = t then 0 else 1, if dy j = t then va_up dy 4 t else va_up (va_up dy 4 t) j t, re))
def mD (dr : Nat → TR) (rf : Int32) (j : Nat) (v : Option TR) : Int32 × (Nat → TR) × Int32 := om v (-9, dr, rf + 1) (fun t => (if dr j = t then 0 else 1, va_up dr j t, rf))
theorem act_d {dy : Nat → TR} {re : Int32} {j : Nat} {v : Option TR} (hj : j ≠ 4) (h1 : okv (dy j)) (h2 : ∀ t, v = some t → okv t) : v_X2_actOnDate (om v ((0 : Int32), dy) (fun t => (1, va_up dy 4 t))).2 re j (om v ((0 : Int32), dy) (fun t => (1, va_up dy 4 t))).1 = cD dy re j v := by
  cases v with
  | none => rfl
  | some t =>
    have ht := h2 t rfl
    show v_X2_actOnDate (va_up dy 4 t) re j 1 = (if dy j = t then 0 else 1, if dy j = t then va_up dy 4 t else va_up (va_up dy 4 t) j t, re)
    unfold v_X2_actOnDate
    rw [if_neg (by decide)]
    have e1 : va_up dy 4 t j = dy j := va_up_ne _ _ hj
    have e2 : va_up dy 4 t 4 = t := va_up_self _ _ _
    have s := ord_0 (dy := va_up dy 4 t) (i := j) (j := 4) (by rw [e1]; exact h1.1) (by rw [e2]; exact ht.1)
    rw [e1, e2] at s
    by_cases c : dy j = t
    · rw [if_pos (s.mpr (by rw [c])), if_pos c, if_pos c]
    · rw [if_neg (fun q => c (num_inj h1 ht (s.mp q))), if_neg c, if_neg c]
      unfold v_X0_putDay v_X0_put
      rw [e2]
theorem bec_m {dr : Nat → TR} {a : Int32} {t : TR} (h1 : okv (dr a.toNatClampNeg)) (h2 : okv t) : v_X4_become dr a t = (if dr a.toNatClampNeg = t then 0 else 1, va_up dr a.toNatClampNeg t) := by
  unfold v_X4_become
  by_cases c : dr a.toNatClampNeg = t
  · rw [if_pos (by rw [c]), if_pos c]; rfl
  · rw [if_neg (fun q => c (num_inj h1 h2 q)), if_neg c]; rfl
theorem actd_rel {dy dr : Nat → TR} {re : Int32} {j : Nat} {v : Option TR} (hj : j < 4) (h : E4 dy dr) (hv : ∀ i, i < 4 → okv (dr i)) (h2 : ∀ t, v = some t → okv t) : (cD dy re j v).1 = (mD dr re j v).1 ∧ E4 (cD dy re j v).2.1 (mD dr re j v).2.1 ∧ (cD dy re j v).2.2 = (mD dr re j v).2.2 ∧ ∀ i, i < 4 → okv ((mD dr re j v).2.1 i) := by
  unfold cD mD
  cases v with
  | none => exact ⟨rfl, h, rfl, hv⟩
  | some t =>
    rw [om_some rfl, om_some rfl, h j hj]
    refine ⟨rfl, ?_, rfl, fun i hi => ?_⟩
    · by_cases c : dr j = t
      · show E4 (if dr j = t then va_up dy 4 t else va_up (va_up dy 4 t) j t) (va_up dr j t)
        rw [if_pos c]
        intro i hi
        rw [va_up_ne _ _ (by omega)]
        by_cases e : i = j
        · rw [e, va_up_self, h j hj]; exact c
        · rw [va_up_ne _ _ e]; exact h i hi
      · show E4 (if dr j = t then va_up dy 4 t else va_up (va_up dy 4 t) j t) (va_up dr j t)
        rw [if_neg c]
        exact E4_up (E4_far h (by omega))
    · show okv (va_up dr j t i)
      by_cases e : i = j
      · rw [e, va_up_self]; exact h2 t rfl
      · rw [va_up_ne _ _ e]; exact hv i hi
end
section
/-! the relation of both states, kept call by call -/
def Rq (sp dy : Nat → TR) (la re : Int32) (cr dr : Nat → TR) (rf : Int32) (pl : Nat → TR) (pz : Nat) : Prop :=
  E4 sp cr ∧ E4 dy dr ∧ la = Int32.ofNat (pz - 1) ∧ (∀ k, k + 1 < pz → sp (4 + k) = pl k) ∧ re = rf ∧ pz ≤ 9 ∧ ∀ i, i < 4 → okv (dr i)
/-- what a wrapper tells of a throw -/
def xcd (E : String) : Int32 := if E = iobN then 1 else 2
/-- a call of both: thrown alike, or answered alike; what holds then -/
def RO (x : Option String) (th r r' : Int32) (K K0 : Prop) : Prop := (x = none → th = 0 ∧ r = r' ∧ K) ∧ ∀ E, x = some E → th = xcd E ∧ K0
theorem RO_ok {x : Option String} {th r r' : Int32} {K K0 : Prop} (hx : x = none) (h1 : th = 0) (h2 : r = r') (h3 : K) : RO x th r r' K K0 := ⟨fun _ => ⟨h1, h2, h3⟩, fun E h => absurd (hx.symm.trans h) (fun q => nomatch q)⟩
theorem RO_no {x : Option String} {E : String} {th r r' : Int32} {K K0 : Prop} (hx : x = some E) (h1 : th = xcd E) (h3 : K0) : RO x th r r' K K0 := ⟨fun h => absurd (hx.symm.trans h) (fun q => nomatch q), fun E' h => by
  have e : E = E' := Option.some.inj (hx.symm.trans h)
  subst e
  exact ⟨h1, h3⟩⟩
theorem xcd_b : xcd iobN = 1 := if_pos rfl
theorem xcd_a : xcd iaeN = 2 := by decide
theorem ca_cs (a : Int32) : (v_X4_isNone a = 0 ∧ x_X2_cardAt a = none ∧ a.toNatClampNeg < 4) ∨ (¬ v_X4_isNone a = 0 ∧ x_X2_cardAt a = some iobN) := by
  by_cases h : v_X4_isNone a = 0
  · refine Or.inl ⟨h, ?_, no_lt h⟩
    unfold v_X4_isNone at h
    unfold x_X2_cardAt
    by_cases h1 : a < 0
    · rw [if_pos h1] at h; exact absurd h (by decide)
    · rw [if_neg h1] at h ⊢
      by_cases h2 : a < 4
      · rw [if_pos h2]
      · rw [if_neg h2] at h; exact absurd h (by decide)
  · refine Or.inr ⟨h, ?_⟩
    unfold v_X4_isNone at h
    unfold x_X2_cardAt
    by_cases h1 : a < 0
    · rw [if_pos h1]
    · rw [if_neg h1] at h ⊢
      by_cases h2 : a < 4
      · rw [if_pos h2] at h; exact absurd rfl h
      · rw [if_neg h2]
theorem da_cs (a : Int32) : (v_X4_isNone a = 0 ∧ x_X2_dateAt a = none ∧ a.toNatClampNeg < 4) ∨ (¬ v_X4_isNone a = 0 ∧ x_X2_dateAt a = some iobN) := ca_cs a
theorem wh_cs (a b : Int32) (n : Nat) (hb : b = nI (n + 1)) (hn : n < 100) : (¬ v_X4_isIn a.toInt64 0 (lN n) = 0 ∧ x_X2_checkWhat a b = none ∧ ∃ k : Nat, k ≤ n ∧ a = nI k) ∨ (v_X4_isIn a.toInt64 0 (lN n) = 0 ∧ x_X2_checkWhat a b = some iaeN) := by
  have e0 : (0 : Int32).toInt = 0 := rfl
  have f0 : (0 : Int64).toInt = 0 := rfl
  have eb : b.toInt = n + 1 := by rw [hb, nI_toInt (by omega)]; omega
  have en : (lN n).toInt = n := pk_lT (by omega)
  have hi := in_iff (x := a.toInt64) (a := 0) (b := lN n)
  rw [Int64.le_iff_toInt_le, Int64.le_iff_toInt_le, Int32.toInt_toInt64, f0, en] at hi
  unfold x_X2_checkWhat
  by_cases h1 : a < 0
  · rw [if_pos h1]
    rw [Int32.lt_iff_toInt_lt] at h1
    refine Or.inr ⟨Classical.byContradiction fun q => ?_, rfl⟩
    have := hi.mp q
    omega
  · rw [if_neg h1]
    rw [Int32.lt_iff_toInt_lt] at h1
    by_cases h2 : a < b
    · rw [if_pos h2]
      rw [Int32.lt_iff_toInt_lt] at h2
      refine Or.inl ⟨hi.mpr (by omega), rfl, a.toInt.toNat, by omega, Int32.toInt_inj.mp (by rw [nI_toInt (by omega)]; omega)⟩
    · rw [if_neg h2]
      rw [Int32.lt_iff_toInt_lt] at h2
      refine Or.inr ⟨Classical.byContradiction fun q => ?_, rfl⟩
      have := hi.mp q
      omega
/-- the reference's act, as it stands in its methods -/
def m4 (q : Int32 × (Nat → TR) × Int32) : Int32 × (Nat → TR) × Int32 × Int32 := (q.1, q.2.1, 0, q.2.2)
theorem om_get {cr : Nat → TR} {rf a : Int32} {v : Option TR} : om v ((v_X4_getN rf).1, cr, (0 : Int32), (v_X4_getN rf).2) (fun t => ((v_X4_get cr a t).1, (v_X4_get cr a t).2, 0, rf)) = m4 (mA cr rf a.toNatClampNeg v) := by
  cases v with
  | none => rfl
  | some t =>
    show ((v_X4_get cr a t).1, (v_X4_get cr a t).2, 0, rf) = _
    rw [get_m]; rfl
theorem om_bec {dr : Nat → TR} {rf a : Int32} {v : Option TR} (h1 : okv (dr a.toNatClampNeg)) (h2 : ∀ t, v = some t → okv t) : om v ((v_X4_becomeN rf).1, dr, (0 : Int32), (v_X4_becomeN rf).2) (fun t => ((v_X4_become dr a t).1, (v_X4_become dr a t).2, 0, rf)) = m4 (mD dr rf a.toNatClampNeg v) := by
  cases v with
  | none => rfl
  | some t =>
    show ((v_X4_become dr a t).1, (v_X4_become dr a t).2, 0, rf) = _
    rw [bec_m h1 (h2 t rfl)]; rfl
theorem pe3 {α β γ : Type} (p : α × β × γ) : (p.1, p.2.1, p.2.2) = p := rfl
theorem pe4 {α β γ δ : Type} (p : α × β × γ × δ) : (p.1, p.2.1, p.2.2.1, p.2.2.2) = p := rfl
theorem xo_n (b : Option String) : xo none b = b := rfl
section REL
variable {sp dy cr dr pl : Nat → TR} {la re rf : Int32} {pz : Nat}
theorem RL_far {sp' dy' : Nat → TR} (h : Rq sp dy la re cr dr rf pl pz) (h1 : ∀ j, j < 12 → sp' j = sp j) (h2 : ∀ j, j < 4 → dy' j = dy j) : Rq sp' dy' la re cr dr rf pl pz := by
  obtain ⟨a, b, c, d, e, f, g⟩ := h
  exact ⟨fun j hj => (h1 j (by omega)).trans (a j hj), fun j hj => (h2 j hj).trans (b j hj), c, fun k hk => (h1 _ (by omega)).trans (d k hk), e, f, g⟩
theorem RL_12 {v : Option TR} (h : Rq sp dy la re cr dr rf pl pz) : Rq (om v ((0 : Int32), sp) (fun t => (1, va_up sp 12 t))).2 dy la re cr dr rf pl pz := by
  cases v with
  | none => exact h
  | some t => exact RL_far h (fun j hj => va_up_ne _ _ (by omega)) (fun _ _ => rfl)
theorem RL_4 {v : Option TR} (h : Rq sp dy la re cr dr rf pl pz) : Rq sp (om v ((0 : Int32), dy) (fun t => (1, va_up dy 4 t))).2 la re cr dr rf pl pz := by
  cases v with
  | none => exact h
  | some t => exact RL_far h (fun _ _ => rfl) (fun j hj => va_up_ne _ _ (by omega))
theorem RL_d {i : Nat} (h : Rq sp dy la re cr dr rf pl pz) (hi : i < 4) : okv (dy i) ∧ okv (dr i) ∧ dy i = dr i := by
  obtain ⟨a, b, c, d, e, f, g⟩ := h
  exact ⟨by rw [b i hi]; exact g i hi, g i hi, b i hi⟩
/-- behind a card's act -/
theorem pa_c {x : Option String} {i : Nat} {v : Option TR} {p : Int32 × (Nat → TR) × Int32} {q : Int32 × (Nat → TR) × Int32 × Int32} {K0 : Prop} (hR : Rq sp dy la re cr dr rf pl pz) (hi : i < 4) (hx : x = none) (hp : p = cA sp re i v) (hq : q = m4 (mA cr rf i v)) : RO x q.2.2.1 p.1 q.1 (Rq p.2.1 dy la p.2.2 q.2.1 dr q.2.2.2 pl pz) K0 := by
  obtain ⟨a, b, c, d, e, f, g⟩ := hR
  subst e
  obtain ⟨k1, k2, k3, k4⟩ := act_rel (re := re) (v := v) hi a
  subst hp hq
  refine RO_ok hx rfl k1 ⟨k2, b, c, fun k hk => ?_, k3, f, g⟩
  rw [k4 k (by omega)]
  exact d k hk
/-- the same, of an act that is never refused -/
theorem pa_c3 {x : Option String} {i : Nat} {t : TR} {p : Int32 × (Nat → TR) × Int32} {q : Int32 × (Nat → TR) × Int32} {K0 : Prop} (hR : Rq sp dy la re cr dr rf pl pz) (hi : i < 4) (hx : x = none) (hp : p = cA sp re i (some t)) (hq : q = ((mA cr rf i (some t)).1, (mA cr rf i (some t)).2.1, 0)) : RO x q.2.2 p.1 q.1 (Rq p.2.1 dy la p.2.2 q.2.1 dr rf pl pz) K0 := by
  have h := pa_c (q := m4 (mA cr rf i (some t))) (K0 := K0) hR hi hx hp rfl
  subst hq
  exact h
/-- behind a date's act -/
theorem pa_d {x : Option String} {j : Nat} {v : Option TR} {p : Int32 × (Nat → TR) × Int32} {q : Int32 × (Nat → TR) × Int32 × Int32} {K0 : Prop} (hR : Rq sp dy la re cr dr rf pl pz) (hj : j < 4) (hv : ∀ t, v = some t → okv t) (hx : x = none) (hp : p = cD dy re j v) (hq : q = m4 (mD dr rf j v)) : RO x q.2.2.1 p.1 q.1 (Rq sp p.2.1 la p.2.2 cr q.2.1 q.2.2.2 pl pz) K0 := by
  obtain ⟨a, b, c, d, e, f, g⟩ := hR
  subst e
  obtain ⟨k1, k2, k3, k4⟩ := actd_rel (re := re) (v := v) hj b g hv
  subst hp hq
  exact RO_ok hx rfl k1 ⟨a, k2, c, d, k3, f, k4⟩
theorem pa_d3 {x : Option String} {j : Nat} {t : TR} {p : Int32 × (Nat → TR) × Int32} {q : Int32 × (Nat → TR) × Int32} {K0 : Prop} (hR : Rq sp dy la re cr dr rf pl pz) (hj : j < 4) (hv : okv t) (hx : x = none) (hp : p = cD dy re j (some t)) (hq : q = ((mD dr rf j (some t)).1, (mD dr rf j (some t)).2.1, 0)) : RO x q.2.2 p.1 q.1 (Rq sp p.2.1 la p.2.2 cr q.2.1 rf pl pz) K0 := by
  have h := pa_d (q := m4 (mD dr rf j (some t))) (K0 := K0) hR hj (fun u hu => by rw [← Option.some.inj hu]; exact hv) hx hp rfl
  subst hq
  exact h
end REL
end
section
/-! method by method: cards -/
section RLS
variable {sp dy cr dr pl : Nat → TR} {la re rf : Int32} {pz : Nat}
/-- so many, or far more -/
def far (a b : Int32) : Int64 := if b = 0 then a.toInt64 else 4000000000 * a.toInt64
theorem how_far (a b : Int32) : v_X2_howMany a b = far a b := by
  unfold v_X2_howMany far
  by_cases c : b = 0
  · rw [if_pos c, if_pos c]
  · rw [if_neg c, if_neg c, Int64.mul_comm]
theorem far_p (x : Int64) : (1 : Int32).toInt64 * x = x := by
  have e : (1 : Int32).toInt64 = 1 := by decide
  rw [e, Int64.one_mul]
theorem far_m (x y : Int64) : x - y = x + (-1 : Int32).toInt64 * y := by
  have e : (-1 : Int32).toInt64 = -1 := by decide
  rw [e, sub_mi]
theorem rl_write {a1 a2 a3 a4 : Int32} (hR : Rq sp dy la re cr dr rf pl pz) : RO (x_X2_write a1) (v_X4_write cr rf a1 a2 a3 a4).2.2.1 (v_X2_write sp re a1 a2 a3 a4).1 (v_X4_write cr rf a1 a2 a3 a4).1 (Rq (v_X2_write sp re a1 a2 a3 a4).2.1 dy la (v_X2_write sp re a1 a2 a3 a4).2.2 (v_X4_write cr rf a1 a2 a3 a4).2.1 dr (v_X4_write cr rf a1 a2 a3 a4).2.2.2 pl pz) (Rq sp dy la re (v_X4_write cr rf a1 a2 a3 a4).2.1 dr (v_X4_write cr rf a1 a2 a3 a4).2.2.2 pl pz) := by
  have hE := hR.1
  rcases ca_cs a1 with ⟨h1, h2, h3⟩ | ⟨h1, h2⟩
  · refine pa_c (v := v_X4_span a2.toInt64 a3.toInt64 a4.toInt64) hR h3 (by unfold x_X2_write; rw [h2]; rfl) ?_ ?_
    · unfold v_X2_write
      rw [pe3, put_eq]
      exact act_c (by omega)
    · unfold v_X4_write; rw [pe4]; unfold v_X4_written
      rw [if_pos h1]
      exact om_get
  · have e : v_X4_write cr rf a1 a2 a3 a4 = (0, cr, 1, rf) := by
      unfold v_X4_write; rw [pe4]; unfold v_X4_written
      rw [if_neg h1]
    rw [e]
    exact RO_no (E := iobN) (by unfold x_X2_write; rw [h2]; rfl) rfl hR
theorem rl_ofYears {a1 a2 : Int32} (hR : Rq sp dy la re cr dr rf pl pz) : RO (x_X2_ofYears a1) (v_X4_ofYears cr rf a1 a2).2.2.1 (v_X2_ofYears sp re a1 a2).1 (v_X4_ofYears cr rf a1 a2).1 (Rq (v_X2_ofYears sp re a1 a2).2.1 dy la (v_X2_ofYears sp re a1 a2).2.2 (v_X4_ofYears cr rf a1 a2).2.1 dr (v_X4_ofYears cr rf a1 a2).2.2.2 pl pz) (Rq sp dy la re (v_X4_ofYears cr rf a1 a2).2.1 dr (v_X4_ofYears cr rf a1 a2).2.2.2 pl pz) := by
  have hE := hR.1
  rcases ca_cs a1 with ⟨h1, h2, h3⟩ | ⟨h1, h2⟩
  · refine pa_c (v := v_X4_span a2.toInt64 0 0) hR h3 (by unfold x_X2_ofYears; rw [h2]; rfl) ?_ ?_
    · unfold v_X2_ofYears
      rw [pe3, put_eq]
      exact act_c (by omega)
    · unfold v_X4_ofYears; rw [pe4]; unfold v_X4_written
      rw [if_pos h1]
      exact om_get
  · have e : v_X4_ofYears cr rf a1 a2 = (0, cr, 1, rf) := by
      unfold v_X4_ofYears; rw [pe4]; unfold v_X4_written
      rw [if_neg h1]
    rw [e]
    exact RO_no (E := iobN) (by unfold x_X2_ofYears; rw [h2]; rfl) rfl hR
theorem rl_ofMonths {a1 a2 : Int32} (hR : Rq sp dy la re cr dr rf pl pz) : RO (x_X2_ofMonths a1) (v_X4_ofMonths cr rf a1 a2).2.2.1 (v_X2_ofMonths sp re a1 a2).1 (v_X4_ofMonths cr rf a1 a2).1 (Rq (v_X2_ofMonths sp re a1 a2).2.1 dy la (v_X2_ofMonths sp re a1 a2).2.2 (v_X4_ofMonths cr rf a1 a2).2.1 dr (v_X4_ofMonths cr rf a1 a2).2.2.2 pl pz) (Rq sp dy la re (v_X4_ofMonths cr rf a1 a2).2.1 dr (v_X4_ofMonths cr rf a1 a2).2.2.2 pl pz) := by
  have hE := hR.1
  rcases ca_cs a1 with ⟨h1, h2, h3⟩ | ⟨h1, h2⟩
  · refine pa_c (v := v_X4_span 0 a2.toInt64 0) hR h3 (by unfold x_X2_ofMonths; rw [h2]; rfl) ?_ ?_
    · unfold v_X2_ofMonths
      rw [pe3, put_eq]
      exact act_c (by omega)
    · unfold v_X4_ofMonths; rw [pe4]; unfold v_X4_written
      rw [if_pos h1]
      exact om_get
  · have e : v_X4_ofMonths cr rf a1 a2 = (0, cr, 1, rf) := by
      unfold v_X4_ofMonths; rw [pe4]; unfold v_X4_written
      rw [if_neg h1]
    rw [e]
    exact RO_no (E := iobN) (by unfold x_X2_ofMonths; rw [h2]; rfl) rfl hR
theorem rl_ofWeeks {a1 a2 : Int32} (hR : Rq sp dy la re cr dr rf pl pz) : RO (x_X2_ofWeeks a1) (v_X4_ofWeeks cr rf a1 a2).2.2.1 (v_X2_ofWeeks sp re a1 a2).1 (v_X4_ofWeeks cr rf a1 a2).1 (Rq (v_X2_ofWeeks sp re a1 a2).2.1 dy la (v_X2_ofWeeks sp re a1 a2).2.2 (v_X4_ofWeeks cr rf a1 a2).2.1 dr (v_X4_ofWeeks cr rf a1 a2).2.2.2 pl pz) (Rq sp dy la re (v_X4_ofWeeks cr rf a1 a2).2.1 dr (v_X4_ofWeeks cr rf a1 a2).2.2.2 pl pz) := by
  have hE := hR.1
  rcases ca_cs a1 with ⟨h1, h2, h3⟩ | ⟨h1, h2⟩
  · refine pa_c (v := v_X4_span 0 0 (7 * a2.toInt64)) hR h3 (by unfold x_X2_ofWeeks; rw [h2]; rfl) ?_ ?_
    · unfold v_X2_ofWeeks
      rw [pe3, put_eq, Int64.mul_comm a2.toInt64 7]
      exact act_c (by omega)
    · unfold v_X4_ofWeeks; rw [pe4]; unfold v_X4_written
      rw [if_pos h1]
      exact om_get
  · have e : v_X4_ofWeeks cr rf a1 a2 = (0, cr, 1, rf) := by
      unfold v_X4_ofWeeks; rw [pe4]; unfold v_X4_written
      rw [if_neg h1]
    rw [e]
    exact RO_no (E := iobN) (by unfold x_X2_ofWeeks; rw [h2]; rfl) rfl hR
theorem rl_ofDays {a1 a2 : Int32} (hR : Rq sp dy la re cr dr rf pl pz) : RO (x_X2_ofDays a1) (v_X4_ofDays cr rf a1 a2).2.2.1 (v_X2_ofDays sp re a1 a2).1 (v_X4_ofDays cr rf a1 a2).1 (Rq (v_X2_ofDays sp re a1 a2).2.1 dy la (v_X2_ofDays sp re a1 a2).2.2 (v_X4_ofDays cr rf a1 a2).2.1 dr (v_X4_ofDays cr rf a1 a2).2.2.2 pl pz) (Rq sp dy la re (v_X4_ofDays cr rf a1 a2).2.1 dr (v_X4_ofDays cr rf a1 a2).2.2.2 pl pz) := by
  have hE := hR.1
  rcases ca_cs a1 with ⟨h1, h2, h3⟩ | ⟨h1, h2⟩
  · refine pa_c (v := v_X4_span 0 0 a2.toInt64) hR h3 (by unfold x_X2_ofDays; rw [h2]; rfl) ?_ ?_
    · unfold v_X2_ofDays
      rw [pe3, put_eq]
      exact act_c (by omega)
    · unfold v_X4_ofDays; rw [pe4]; unfold v_X4_written
      rw [if_pos h1]
      exact om_get
  · have e : v_X4_ofDays cr rf a1 a2 = (0, cr, 1, rf) := by
      unfold v_X4_ofDays; rw [pe4]; unfold v_X4_written
      rw [if_neg h1]
    rw [e]
    exact RO_no (E := iobN) (by unfold x_X2_ofDays; rw [h2]; rfl) rfl hR
theorem rl_plusYears {a1 a2 a3 : Int32} (hR : Rq sp dy la re cr dr rf pl pz) : RO (x_X2_plusYears a1) (v_X4_plusYears cr rf a1 a2 a3).2.2.1 (v_X2_plusYears sp re a1 a2 a3).1 (v_X4_plusYears cr rf a1 a2 a3).1 (Rq (v_X2_plusYears sp re a1 a2 a3).2.1 dy la (v_X2_plusYears sp re a1 a2 a3).2.2 (v_X4_plusYears cr rf a1 a2 a3).2.1 dr (v_X4_plusYears cr rf a1 a2 a3).2.2.2 pl pz) (Rq sp dy la re (v_X4_plusYears cr rf a1 a2 a3).2.1 dr (v_X4_plusYears cr rf a1 a2 a3).2.2.2 pl pz) := by
  have hE := hR.1
  rcases ca_cs a1 with ⟨h1, h2, h3⟩ | ⟨h1, h2⟩
  · refine pa_c (v := v_X4_span ((cr a1.toNatClampNeg).1.toInt64 + (1 : Int32).toInt64 * far a2 a3) ((cr a1.toNatClampNeg).2.1.toInt64 + 0) ((cr a1.toNatClampNeg).2.2.toInt64 + 0)) hR h3 (by unfold x_X2_plusYears; rw [h2]; rfl) ?_ ?_
    · unfold v_X2_plusYears
      rw [pe3, put_eq, hE _ h3, how_far, Int64.add_zero, Int64.add_zero, far_p]
      exact act_c (by omega)
    · unfold v_X4_plusYears; rw [pe4]; unfold v_X4_moreOf
      rw [if_pos h1]
      by_cases c : a3 = 0
      · rw [if_pos c, if_pos (show (0 : Int32) = 0 from rfl), if_neg (show ¬ (0 : Int32) = 1 by decide), if_neg (show ¬ (0 : Int32) = 2 by decide), show a2.toInt64 = far a2 a3 from (if_pos c).symm]
        exact om_get
      · rw [if_neg c, if_pos (show (0 : Int32) = 0 from rfl), if_neg (show ¬ (0 : Int32) = 1 by decide), if_neg (show ¬ (0 : Int32) = 2 by decide), show 4000000000 * a2.toInt64 = far a2 a3 from (if_neg c).symm]
        exact om_get
  · have e : v_X4_plusYears cr rf a1 a2 a3 = (0, cr, 1, rf) := by
      unfold v_X4_plusYears; rw [pe4]; unfold v_X4_moreOf
      rw [if_neg h1]
    rw [e]
    exact RO_no (E := iobN) (by unfold x_X2_plusYears; rw [h2]; rfl) rfl hR
theorem rl_plusMonths {a1 a2 a3 : Int32} (hR : Rq sp dy la re cr dr rf pl pz) : RO (x_X2_plusMonths a1) (v_X4_plusMonths cr rf a1 a2 a3).2.2.1 (v_X2_plusMonths sp re a1 a2 a3).1 (v_X4_plusMonths cr rf a1 a2 a3).1 (Rq (v_X2_plusMonths sp re a1 a2 a3).2.1 dy la (v_X2_plusMonths sp re a1 a2 a3).2.2 (v_X4_plusMonths cr rf a1 a2 a3).2.1 dr (v_X4_plusMonths cr rf a1 a2 a3).2.2.2 pl pz) (Rq sp dy la re (v_X4_plusMonths cr rf a1 a2 a3).2.1 dr (v_X4_plusMonths cr rf a1 a2 a3).2.2.2 pl pz) := by
  have hE := hR.1
  rcases ca_cs a1 with ⟨h1, h2, h3⟩ | ⟨h1, h2⟩
  · refine pa_c (v := v_X4_span ((cr a1.toNatClampNeg).1.toInt64 + 0) ((cr a1.toNatClampNeg).2.1.toInt64 + (1 : Int32).toInt64 * far a2 a3) ((cr a1.toNatClampNeg).2.2.toInt64 + 0)) hR h3 (by unfold x_X2_plusMonths; rw [h2]; rfl) ?_ ?_
    · unfold v_X2_plusMonths
      rw [pe3, put_eq, hE _ h3, how_far, Int64.add_zero, Int64.add_zero, far_p]
      exact act_c (by omega)
    · unfold v_X4_plusMonths; rw [pe4]; unfold v_X4_moreOf
      rw [if_pos h1]
      by_cases c : a3 = 0
      · rw [if_pos c, if_neg (show ¬ (1 : Int32) = 0 by decide), if_pos (show (1 : Int32) = 1 from rfl), if_neg (show ¬ (1 : Int32) = 2 by decide), show a2.toInt64 = far a2 a3 from (if_pos c).symm]
        exact om_get
      · rw [if_neg c, if_neg (show ¬ (1 : Int32) = 0 by decide), if_pos (show (1 : Int32) = 1 from rfl), if_neg (show ¬ (1 : Int32) = 2 by decide), show 4000000000 * a2.toInt64 = far a2 a3 from (if_neg c).symm]
        exact om_get
  · have e : v_X4_plusMonths cr rf a1 a2 a3 = (0, cr, 1, rf) := by
      unfold v_X4_plusMonths; rw [pe4]; unfold v_X4_moreOf
      rw [if_neg h1]
    rw [e]
    exact RO_no (E := iobN) (by unfold x_X2_plusMonths; rw [h2]; rfl) rfl hR
theorem rl_plusDays {a1 a2 a3 : Int32} (hR : Rq sp dy la re cr dr rf pl pz) : RO (x_X2_plusDays a1) (v_X4_plusDays cr rf a1 a2 a3).2.2.1 (v_X2_plusDays sp re a1 a2 a3).1 (v_X4_plusDays cr rf a1 a2 a3).1 (Rq (v_X2_plusDays sp re a1 a2 a3).2.1 dy la (v_X2_plusDays sp re a1 a2 a3).2.2 (v_X4_plusDays cr rf a1 a2 a3).2.1 dr (v_X4_plusDays cr rf a1 a2 a3).2.2.2 pl pz) (Rq sp dy la re (v_X4_plusDays cr rf a1 a2 a3).2.1 dr (v_X4_plusDays cr rf a1 a2 a3).2.2.2 pl pz) := by
  have hE := hR.1
  rcases ca_cs a1 with ⟨h1, h2, h3⟩ | ⟨h1, h2⟩
  · refine pa_c (v := v_X4_span ((cr a1.toNatClampNeg).1.toInt64 + 0) ((cr a1.toNatClampNeg).2.1.toInt64 + 0) ((cr a1.toNatClampNeg).2.2.toInt64 + (1 : Int32).toInt64 * far a2 a3)) hR h3 (by unfold x_X2_plusDays; rw [h2]; rfl) ?_ ?_
    · unfold v_X2_plusDays
      rw [pe3, put_eq, hE _ h3, how_far, Int64.add_zero, Int64.add_zero, far_p]
      exact act_c (by omega)
    · unfold v_X4_plusDays; rw [pe4]; unfold v_X4_moreOf
      rw [if_pos h1]
      by_cases c : a3 = 0
      · rw [if_pos c, if_neg (show ¬ (2 : Int32) = 0 by decide), if_neg (show ¬ (2 : Int32) = 1 by decide), if_pos (show (2 : Int32) = 2 from rfl), show a2.toInt64 = far a2 a3 from (if_pos c).symm]
        exact om_get
      · rw [if_neg c, if_neg (show ¬ (2 : Int32) = 0 by decide), if_neg (show ¬ (2 : Int32) = 1 by decide), if_pos (show (2 : Int32) = 2 from rfl), show 4000000000 * a2.toInt64 = far a2 a3 from (if_neg c).symm]
        exact om_get
  · have e : v_X4_plusDays cr rf a1 a2 a3 = (0, cr, 1, rf) := by
      unfold v_X4_plusDays; rw [pe4]; unfold v_X4_moreOf
      rw [if_neg h1]
    rw [e]
    exact RO_no (E := iobN) (by unfold x_X2_plusDays; rw [h2]; rfl) rfl hR
theorem rl_minusYears {a1 a2 a3 : Int32} (hR : Rq sp dy la re cr dr rf pl pz) : RO (x_X2_minusYears a1) (v_X4_minusYears cr rf a1 a2 a3).2.2.1 (v_X2_minusYears sp re a1 a2 a3).1 (v_X4_minusYears cr rf a1 a2 a3).1 (Rq (v_X2_minusYears sp re a1 a2 a3).2.1 dy la (v_X2_minusYears sp re a1 a2 a3).2.2 (v_X4_minusYears cr rf a1 a2 a3).2.1 dr (v_X4_minusYears cr rf a1 a2 a3).2.2.2 pl pz) (Rq sp dy la re (v_X4_minusYears cr rf a1 a2 a3).2.1 dr (v_X4_minusYears cr rf a1 a2 a3).2.2.2 pl pz) := by
  have hE := hR.1
  rcases ca_cs a1 with ⟨h1, h2, h3⟩ | ⟨h1, h2⟩
  · refine pa_c (v := v_X4_span ((cr a1.toNatClampNeg).1.toInt64 + ((-1) : Int32).toInt64 * far a2 a3) ((cr a1.toNatClampNeg).2.1.toInt64 + 0) ((cr a1.toNatClampNeg).2.2.toInt64 + 0)) hR h3 (by unfold x_X2_minusYears; rw [h2]; rfl) ?_ ?_
    · unfold v_X2_minusYears
      rw [pe3, put_eq, hE _ h3, how_far, Int64.add_zero, Int64.add_zero, far_m]
      exact act_c (by omega)
    · unfold v_X4_minusYears; rw [pe4]; unfold v_X4_moreOf
      rw [if_pos h1]
      by_cases c : a3 = 0
      · rw [if_pos c, if_pos (show (0 : Int32) = 0 from rfl), if_neg (show ¬ (0 : Int32) = 1 by decide), if_neg (show ¬ (0 : Int32) = 2 by decide), show a2.toInt64 = far a2 a3 from (if_pos c).symm]
        exact om_get
      · rw [if_neg c, if_pos (show (0 : Int32) = 0 from rfl), if_neg (show ¬ (0 : Int32) = 1 by decide), if_neg (show ¬ (0 : Int32) = 2 by decide), show 4000000000 * a2.toInt64 = far a2 a3 from (if_neg c).symm]
        exact om_get
  · have e : v_X4_minusYears cr rf a1 a2 a3 = (0, cr, 1, rf) := by
      unfold v_X4_minusYears; rw [pe4]; unfold v_X4_moreOf
      rw [if_neg h1]
    rw [e]
    exact RO_no (E := iobN) (by unfold x_X2_minusYears; rw [h2]; rfl) rfl hR
theorem rl_minusMonths {a1 a2 a3 : Int32} (hR : Rq sp dy la re cr dr rf pl pz) : RO (x_X2_minusMonths a1) (v_X4_minusMonths cr rf a1 a2 a3).2.2.1 (v_X2_minusMonths sp re a1 a2 a3).1 (v_X4_minusMonths cr rf a1 a2 a3).1 (Rq (v_X2_minusMonths sp re a1 a2 a3).2.1 dy la (v_X2_minusMonths sp re a1 a2 a3).2.2 (v_X4_minusMonths cr rf a1 a2 a3).2.1 dr (v_X4_minusMonths cr rf a1 a2 a3).2.2.2 pl pz) (Rq sp dy la re (v_X4_minusMonths cr rf a1 a2 a3).2.1 dr (v_X4_minusMonths cr rf a1 a2 a3).2.2.2 pl pz) := by
  have hE := hR.1
  rcases ca_cs a1 with ⟨h1, h2, h3⟩ | ⟨h1, h2⟩
  · refine pa_c (v := v_X4_span ((cr a1.toNatClampNeg).1.toInt64 + 0) ((cr a1.toNatClampNeg).2.1.toInt64 + ((-1) : Int32).toInt64 * far a2 a3) ((cr a1.toNatClampNeg).2.2.toInt64 + 0)) hR h3 (by unfold x_X2_minusMonths; rw [h2]; rfl) ?_ ?_
    · unfold v_X2_minusMonths
      rw [pe3, put_eq, hE _ h3, how_far, Int64.add_zero, Int64.add_zero, far_m]
      exact act_c (by omega)
    · unfold v_X4_minusMonths; rw [pe4]; unfold v_X4_moreOf
      rw [if_pos h1]
      by_cases c : a3 = 0
      · rw [if_pos c, if_neg (show ¬ (1 : Int32) = 0 by decide), if_pos (show (1 : Int32) = 1 from rfl), if_neg (show ¬ (1 : Int32) = 2 by decide), show a2.toInt64 = far a2 a3 from (if_pos c).symm]
        exact om_get
      · rw [if_neg c, if_neg (show ¬ (1 : Int32) = 0 by decide), if_pos (show (1 : Int32) = 1 from rfl), if_neg (show ¬ (1 : Int32) = 2 by decide), show 4000000000 * a2.toInt64 = far a2 a3 from (if_neg c).symm]
        exact om_get
  · have e : v_X4_minusMonths cr rf a1 a2 a3 = (0, cr, 1, rf) := by
      unfold v_X4_minusMonths; rw [pe4]; unfold v_X4_moreOf
      rw [if_neg h1]
    rw [e]
    exact RO_no (E := iobN) (by unfold x_X2_minusMonths; rw [h2]; rfl) rfl hR
theorem rl_minusDays {a1 a2 a3 : Int32} (hR : Rq sp dy la re cr dr rf pl pz) : RO (x_X2_minusDays a1) (v_X4_minusDays cr rf a1 a2 a3).2.2.1 (v_X2_minusDays sp re a1 a2 a3).1 (v_X4_minusDays cr rf a1 a2 a3).1 (Rq (v_X2_minusDays sp re a1 a2 a3).2.1 dy la (v_X2_minusDays sp re a1 a2 a3).2.2 (v_X4_minusDays cr rf a1 a2 a3).2.1 dr (v_X4_minusDays cr rf a1 a2 a3).2.2.2 pl pz) (Rq sp dy la re (v_X4_minusDays cr rf a1 a2 a3).2.1 dr (v_X4_minusDays cr rf a1 a2 a3).2.2.2 pl pz) := by
  have hE := hR.1
  rcases ca_cs a1 with ⟨h1, h2, h3⟩ | ⟨h1, h2⟩
  · refine pa_c (v := v_X4_span ((cr a1.toNatClampNeg).1.toInt64 + 0) ((cr a1.toNatClampNeg).2.1.toInt64 + 0) ((cr a1.toNatClampNeg).2.2.toInt64 + ((-1) : Int32).toInt64 * far a2 a3)) hR h3 (by unfold x_X2_minusDays; rw [h2]; rfl) ?_ ?_
    · unfold v_X2_minusDays
      rw [pe3, put_eq, hE _ h3, how_far, Int64.add_zero, Int64.add_zero, far_m]
      exact act_c (by omega)
    · unfold v_X4_minusDays; rw [pe4]; unfold v_X4_moreOf
      rw [if_pos h1]
      by_cases c : a3 = 0
      · rw [if_pos c, if_neg (show ¬ (2 : Int32) = 0 by decide), if_neg (show ¬ (2 : Int32) = 1 by decide), if_pos (show (2 : Int32) = 2 from rfl), show a2.toInt64 = far a2 a3 from (if_pos c).symm]
        exact om_get
      · rw [if_neg c, if_neg (show ¬ (2 : Int32) = 0 by decide), if_neg (show ¬ (2 : Int32) = 1 by decide), if_pos (show (2 : Int32) = 2 from rfl), show 4000000000 * a2.toInt64 = far a2 a3 from (if_neg c).symm]
        exact om_get
  · have e : v_X4_minusDays cr rf a1 a2 a3 = (0, cr, 1, rf) := by
      unfold v_X4_minusDays; rw [pe4]; unfold v_X4_moreOf
      rw [if_neg h1]
    rw [e]
    exact RO_no (E := iobN) (by unfold x_X2_minusDays; rw [h2]; rfl) rfl hR
theorem rl_plus {a1 a2 : Int32} (hR : Rq sp dy la re cr dr rf pl pz) : RO (x_X2_plus a1 a2) (v_X4_plus cr rf a1 a2).2.2.1 (v_X2_plus sp re a1 a2).1 (v_X4_plus cr rf a1 a2).1 (Rq (v_X2_plus sp re a1 a2).2.1 dy la (v_X2_plus sp re a1 a2).2.2 (v_X4_plus cr rf a1 a2).2.1 dr (v_X4_plus cr rf a1 a2).2.2.2 pl pz) (Rq sp dy la re (v_X4_plus cr rf a1 a2).2.1 dr (v_X4_plus cr rf a1 a2).2.2.2 pl pz) := by
  have hE := hR.1
  rcases ca_cs a1 with ⟨h1, h2, h3⟩ | ⟨h1, h2⟩
  · rcases ca_cs a2 with ⟨g1, g2, g3⟩ | ⟨g1, g2⟩
    · refine pa_c (v := v_X4_sum (cr a1.toNatClampNeg) 1 (cr a2.toNatClampNeg)) hR h3 (by unfold x_X2_plus; rw [h2, g2]; rfl) ?_ ?_
      · unfold v_X2_plus
        rw [pe3, psum_eq, hE _ h3, hE _ g3]
        exact act_c (by omega)
      · unfold v_X4_plus
        rw [if_pos h1, if_pos g1]
        exact om_get
    · have e : v_X4_plus cr rf a1 a2 = (0, cr, 1, rf) := by
        unfold v_X4_plus
        rw [if_pos h1, if_neg g1]
      rw [e]
      exact RO_no (E := iobN) (by unfold x_X2_plus; rw [h2, g2]; rfl) rfl hR
  · have e : v_X4_plus cr rf a1 a2 = (0, cr, 1, rf) := by
      unfold v_X4_plus
      rw [if_neg h1]
    rw [e]
    exact RO_no (E := iobN) (by unfold x_X2_plus; rw [h2]; rfl) rfl hR
theorem rl_minus {a1 a2 : Int32} (hR : Rq sp dy la re cr dr rf pl pz) : RO (x_X2_minus a1 a2) (v_X4_minus cr rf a1 a2).2.2.1 (v_X2_minus sp re a1 a2).1 (v_X4_minus cr rf a1 a2).1 (Rq (v_X2_minus sp re a1 a2).2.1 dy la (v_X2_minus sp re a1 a2).2.2 (v_X4_minus cr rf a1 a2).2.1 dr (v_X4_minus cr rf a1 a2).2.2.2 pl pz) (Rq sp dy la re (v_X4_minus cr rf a1 a2).2.1 dr (v_X4_minus cr rf a1 a2).2.2.2 pl pz) := by
  have hE := hR.1
  rcases ca_cs a1 with ⟨h1, h2, h3⟩ | ⟨h1, h2⟩
  · rcases ca_cs a2 with ⟨g1, g2, g3⟩ | ⟨g1, g2⟩
    · refine pa_c (v := v_X4_sum (cr a1.toNatClampNeg) (-1) (cr a2.toNatClampNeg)) hR h3 (by unfold x_X2_minus; rw [h2, g2]; rfl) ?_ ?_
      · unfold v_X2_minus
        rw [pe3, pdif_eq, hE _ h3, hE _ g3]
        exact act_c (by omega)
      · unfold v_X4_minus
        rw [if_pos h1, if_pos g1]
        exact om_get
    · have e : v_X4_minus cr rf a1 a2 = (0, cr, 1, rf) := by
        unfold v_X4_minus
        rw [if_pos h1, if_neg g1]
      rw [e]
      exact RO_no (E := iobN) (by unfold x_X2_minus; rw [h2, g2]; rfl) rfl hR
  · have e : v_X4_minus cr rf a1 a2 = (0, cr, 1, rf) := by
      unfold v_X4_minus
      rw [if_neg h1]
    rw [e]
    exact RO_no (E := iobN) (by unfold x_X2_minus; rw [h2]; rfl) rfl hR
theorem rl_multipliedBy {a1 a2 : Int32} (hR : Rq sp dy la re cr dr rf pl pz) : RO (x_X2_multipliedBy a1) (v_X4_multipliedBy cr rf a1 a2).2.2.1 (v_X2_multipliedBy sp re a1 a2).1 (v_X4_multipliedBy cr rf a1 a2).1 (Rq (v_X2_multipliedBy sp re a1 a2).2.1 dy la (v_X2_multipliedBy sp re a1 a2).2.2 (v_X4_multipliedBy cr rf a1 a2).2.1 dr (v_X4_multipliedBy cr rf a1 a2).2.2.2 pl pz) (Rq sp dy la re (v_X4_multipliedBy cr rf a1 a2).2.1 dr (v_X4_multipliedBy cr rf a1 a2).2.2.2 pl pz) := by
  have hE := hR.1
  rcases ca_cs a1 with ⟨h1, h2, h3⟩ | ⟨h1, h2⟩
  · refine pa_c (v := v_X4_sum v_X4_nothing a2.toInt64 (cr a1.toNatClampNeg)) hR h3 (by unfold x_X2_multipliedBy; rw [h2]; rfl) ?_ ?_
    · unfold v_X2_multipliedBy
      rw [pe3, ptim_eq, hE _ h3]
      exact act_c (by omega)
    · unfold v_X4_multipliedBy
      rw [if_pos h1]
      exact om_get
  · have e : v_X4_multipliedBy cr rf a1 a2 = (0, cr, 1, rf) := by
      unfold v_X4_multipliedBy
      rw [if_neg h1]
    rw [e]
    exact RO_no (E := iobN) (by unfold x_X2_multipliedBy; rw [h2]; rfl) rfl hR
theorem rl_negated {a1 : Int32} (hR : Rq sp dy la re cr dr rf pl pz) : RO (x_X2_negated a1) (v_X4_negated cr rf a1).2.2.1 (v_X2_negated sp re a1).1 (v_X4_negated cr rf a1).1 (Rq (v_X2_negated sp re a1).2.1 dy la (v_X2_negated sp re a1).2.2 (v_X4_negated cr rf a1).2.1 dr (v_X4_negated cr rf a1).2.2.2 pl pz) (Rq sp dy la re (v_X4_negated cr rf a1).2.1 dr (v_X4_negated cr rf a1).2.2.2 pl pz) := by
  have hE := hR.1
  rcases ca_cs a1 with ⟨h1, h2, h3⟩ | ⟨h1, h2⟩
  · refine pa_c (v := v_X4_opposed (cr a1.toNatClampNeg)) hR h3 (by unfold x_X2_negated; rw [h2]; rfl) ?_ ?_
    · unfold v_X2_negated
      rw [pe3, popp_eq, hE _ h3]
      exact act_c (by omega)
    · unfold v_X4_negated
      rw [if_pos h1]
      exact om_get
  · have e : v_X4_negated cr rf a1 = (0, cr, 1, rf) := by
      unfold v_X4_negated
      rw [if_neg h1]
    rw [e]
    exact RO_no (E := iobN) (by unfold x_X2_negated; rw [h2]; rfl) rfl hR
theorem rl_normalized {a1 : Int32} (hR : Rq sp dy la re cr dr rf pl pz) : RO (x_X2_normalized a1) (v_X4_normalized cr rf a1).2.2.1 (v_X2_normalized sp re a1).1 (v_X4_normalized cr rf a1).1 (Rq (v_X2_normalized sp re a1).2.1 dy la (v_X2_normalized sp re a1).2.2 (v_X4_normalized cr rf a1).2.1 dr (v_X4_normalized cr rf a1).2.2.2 pl pz) (Rq sp dy la re (v_X4_normalized cr rf a1).2.1 dr (v_X4_normalized cr rf a1).2.2.2 pl pz) := by
  have hE := hR.1
  rcases ca_cs a1 with ⟨h1, h2, h3⟩ | ⟨h1, h2⟩
  · refine pa_c (v := v_X4_tidied (cr a1.toNatClampNeg)) hR h3 (by unfold x_X2_normalized; rw [h2]; rfl) ?_ ?_
    · unfold v_X2_normalized
      rw [pe3, ptid_eq, hE _ h3]
      exact act_c (by omega)
    · unfold v_X4_normalized
      rw [if_pos h1]
      exact om_get
  · have e : v_X4_normalized cr rf a1 = (0, cr, 1, rf) := by
      unfold v_X4_normalized
      rw [if_neg h1]
    rw [e]
    exact RO_no (E := iobN) (by unfold x_X2_normalized; rw [h2]; rfl) rfl hR
end RLS
end
